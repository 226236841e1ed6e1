import java.util.ArrayList;
import java.util.List;

/**
 * A server under test that remembers the calls that change it, so that twins in the same state can
 * be made and be asked till nothing is left of them. It lets no object get more calls than the
 * document promises anything for.
 */
final class Trial {
    interface Call {
        int on(HoldServer server);
    }

    static final int MOST_CALLS = 512;

    private final HoldServer server = new HoldServer();
    private final List<Call> changes = new ArrayList<>();
    private int calls;

    Trial twin() {
        Trial twin = new Trial();
        for (Call change : changes) {
            twin.change(change);
        }
        return twin;
    }

    /** Makes a call that a twin does not get: one that changes nothing. */
    int ask(Call call) {
        calls++;
        if (calls > MOST_CALLS) {
            throw new AssertionError("a test makes more than " + MOST_CALLS + " calls on one object");
        }
        return call.on(server);
    }

    int callsMade() {
        return calls;
    }

    private int change(Call call) {
        changes.add(call);
        return ask(call);
    }

    int addDirectory(int parent, int quota) {
        return change(s -> s.addDirectory(parent, quota));
    }

    int setQuota(int directory, int quota) {
        return change(s -> s.setQuota(directory, quota));
    }

    int make(int department, int directory, int size) {
        return change(s -> s.make(department, directory, size));
    }

    int link(int file, int directory) {
        return change(s -> s.link(file, directory));
    }

    int unlink(int file, int directory) {
        return change(s -> s.unlink(file, directory));
    }

    int write(int file, int size) {
        return change(s -> s.write(file, size));
    }

    int read(int file) {
        return change(s -> s.read(file));
    }

    int hold(int matter, int file) {
        return change(s -> s.hold(matter, file));
    }

    int release(int matter) {
        return change(s -> s.release(matter));
    }

    int fund(int department, int coins) {
        return change(s -> s.fund(department, coins));
    }

    int pass(int days) {
        return change(s -> s.pass(days));
    }

    int day() {
        return ask(s -> s.day());
    }

    int directories() {
        return ask(s -> s.directories());
    }

    int files() {
        return ask(s -> s.files());
    }

    int usage(int directory) {
        return ask(s -> s.usage(directory));
    }

    int usageByWalking(int directory) {
        return ask(s -> s.usageByWalking(directory));
    }

    int size(int file) {
        return ask(s -> s.size(file));
    }

    int home(int file) {
        return ask(s -> s.home(file));
    }

    int kept(int file) {
        return ask(s -> s.kept(file));
    }

    int holders(int file) {
        return ask(s -> s.holders(file));
    }

    int tier(int file) {
        return ask(s -> s.tier(file));
    }

    int coins(int department) {
        return ask(s -> s.coins(department));
    }

    int bill(int department) {
        return ask(s -> s.bill(department));
    }

    // ---- what tests need to get a server into a state

    /** Directories up to so many, all below the root and without a quota. */
    void fillDirectories(int count) {
        while (directories() < count) {
            addDirectory(0, -1);
        }
    }

    /** Files of the size 1 up to so many, in the root, by the department. */
    void fillFiles(int count, int department) {
        while (files() < count) {
            make(department, 0, 1);
        }
    }

    /** Days up to this one, as many at once as may be. */
    void passTo(int day) {
        for (int left = day - day(); left > 0; left -= 100) {
            pass(Math.min(left, 100));
        }
    }

    /** Takes all coins of a department by the bill of a file of its own, which is gone then. */
    void empty(int department) {
        int file = make(department, 0, 1000);
        while (coins(department) > 0) {
            pass(1);
        }
        unlink(file, 0);
    }
}
