import java.util.Random;
import java.util.TreeMap;

/**
 * Runs of 512 calls with drawn arguments (the seeds are fixed): HoldServer answers, throws and
 * shows the same as PlainServer after every call.
 */
final class RandomRunsTest {
    private static final int RUNS = 600;
    private static final int CALLS = 512;
    // An answer and each exception of every call, but for the limits of coins and of days, which
    // so few calls do not reach: BudgetTest has these.
    private static final int KINDS_OF_OUTCOMES = 34;
    private static final int[] WRONG = {-1, -2, 4, 5, 12, 30, 1001, 10001, 100001, Integer.MIN_VALUE, Integer.MAX_VALUE};
    private static final int[] FEW_DAYS = {1, 1, 1, 2, 3};
    private static final int[] MANY_DAYS = {1, 2, 27, 29, 30, 31, 59, 60, 89, 90, 100};
    private static final String[] CALLED = {
        "addDirectory", "setQuota", "make", "make", "link", "link", "unlink", "write", "write", "write",
        "read", "read", "hold", "hold", "release", "fund", "pass", "pass",
    };

    private final Random drawn;
    private final int[] days;
    private final HoldServer server = new HoldServer();
    private final PlainServer plain = new PlainServer();

    private RandomRunsTest(int seed) {
        drawn = new Random(seed);
        days = seed % 2 == 0 ? FEW_DAYS : MANY_DAYS;
    }

    public static void main(String[] args) {
        Checks checks = new Checks();
        TreeMap<String, Integer> seen = new TreeMap<>();
        for (int seed = 0; seed < RUNS; seed++) {
            new RandomRunsTest(seed).run(seed, checks, seen);
        }
        System.out.println("outcomes seen: " + seen);
        checks.due("the number of kinds of outcomes", seen.size(), KINDS_OF_OUTCOMES);
        checks.end("RandomRunsTest");
    }

    private void run(int seed, Checks checks, TreeMap<String, Integer> seen) {
        for (int i = 0; i < CALLS; i++) {
            String name = CALLED[drawn.nextInt(CALLED.length)];
            int[] a = argumentsFor(name);
            if (drawn.nextInt(25) == 0) {
                a[drawn.nextInt(3)] = WRONG[drawn.nextInt(WRONG.length)];
            }
            String told = "run " + seed + ", call " + i + ": " + name + "(" + a[0] + ", " + a[1] + ", " + a[2] + ")";
            String due = Checks.outcome(() -> plain.call(name, a[0], a[1], a[2]));
            checks.due(told, Checks.outcome(() -> call(name, a[0], a[1], a[2])), due);
            checks.due(told, Sight.of(server), plain.sight());
            String kind = name + (due.endsWith("Exception") ? " " + due : "");
            seen.merge(kind, 1, Integer::sum);
        }
    }

    private int[] argumentsFor(String name) {
        int directory = drawn.nextInt(server.directories());
        int file = drawn.nextInt(Math.max(1, server.files()));
        int matter = drawn.nextInt(5);
        int department = drawn.nextInt(4);
        int size = drawn.nextInt(3) == 0 ? 1 + drawn.nextInt(1000) : 1 + drawn.nextInt(60);
        switch (name) {
            case "addDirectory": return new int[] {directory, quota(), 0};
            case "setQuota": return new int[] {directory, quota(), 0};
            case "make": return new int[] {department, directory, size};
            case "write": return new int[] {file, size, 0};
            case "hold": return new int[] {matter, file, 0};
            case "release": return new int[] {matter, 0, 0};
            case "fund": return new int[] {department, 1 + drawn.nextInt(drawn.nextInt(2) == 0 ? 50 : 10000), 0};
            case "pass": return new int[] {days[drawn.nextInt(days.length)], 0, 0};
            default: return new int[] {file, directory, 0};
        }
    }

    private int quota() {
        switch (drawn.nextInt(3)) {
            case 0: return -1;
            case 1: return drawn.nextInt(300);
            default: return drawn.nextInt(5000);
        }
    }

    private int call(String name, int a, int b, int c) {
        switch (name) {
            case "addDirectory": return server.addDirectory(a, b);
            case "setQuota": return server.setQuota(a, b);
            case "make": return server.make(a, b, c);
            case "link": return server.link(a, b);
            case "unlink": return server.unlink(a, b);
            case "write": return server.write(a, b);
            case "read": return server.read(a);
            case "hold": return server.hold(a, b);
            case "release": return server.release(a);
            case "fund": return server.fund(a, b);
            default: return server.pass(a);
        }
    }
}
