/**
 * What the document says over all calls: an object is good for 512 calls, a call that is refused
 * changes nothing, and a call that only tells something changes nothing, in states in which much is full.
 */
final class LimitTest {
    private static final Checks checks = new Checks();

    public static void main(String[] args) {
        isUsedFor512Calls();
        refuses512Times();
        refusesWhenAllIsFull();
        tellsWhenAllIsFull();
        checks.end("LimitTest");
    }

    private static void isUsedFor512Calls() {
        Trial x = new Trial();
        x.make(0, 0, 1000);
        x.hold(0, 0);
        while (x.callsMade() < Trial.MOST_CALLS - 1) {
            x.write(0, 1000);
        }
        Trial last = x.twin();
        checks.due("the last call, that tells something", x.kept(0), 509000);
        checks.due("the last call, that changes something", last.release(0), 509000);
    }

    private static void refuses512Times() {
        Trial x = new Trial();
        while (x.callsMade() < Trial.MOST_CALLS - 3) {
            Checks.outcome(x, s -> s.make(0, 0, 0));
            Checks.outcome(x, s -> s.link(0, 0));
            Checks.outcome(x, s -> s.pass(101));
        }
        checks.due("files() behind refused calls", x.files(), 0);
        checks.due("day() behind refused calls", x.day(), 0);
    }

    /**
     * 12 directories on one way, each with a quota that is just used up; 30 files, of all tiers, held
     * or not, some gone, one being brought back, one with 12 links; the department 3 is empty.
     */
    private static Trial full() {
        Trial x = new Trial();
        for (int d = 1; d < 12; d++) {
            x.addDirectory(d - 1, -1);
        }
        for (int department = 0; department < 3; department++) {
            x.fund(department, 10000);
        }
        for (int f = 0; f < 16; f++) {
            x.make(f % 4, f % 12, 10 + f);
        }
        for (int d = 0; d < 11; d++) {
            x.link(11, d);
        }
        x.hold(0, 1);
        x.hold(4, 1);
        x.hold(2, 4);
        x.hold(2, 5);
        x.write(1, 30);
        x.write(4, 3);
        x.unlink(4, 4);
        x.unlink(6, 6);
        x.pass(60);
        for (int f = 16; f < 25; f++) {
            x.make(f % 3, f % 12, 10 + f);
        }
        x.pass(30);
        x.read(2);
        for (int f = 25; f < 30; f++) {
            x.make(f % 3, f % 12, 10 + f);
        }
        x.pass(1);
        for (int d = 0; d < 12; d++) {
            x.setQuota(d, x.usage(d));
        }
        return x;
    }

    private static void refusesWhenAllIsFull() {
        Trial x = full();
        checks.due("files", x.files(), 30);
        checks.due("directories", x.directories(), 12);
        checks.due("coins(3)", x.coins(3), 0);
        checks.due("a file in the tier 0", x.tier(29), 0);
        checks.due("a file in the tier 1", x.tier(17), 1);
        checks.due("a file in the tier 2", x.tier(1), 2);
        checks.due("a file that is brought back tomorrow", x.twin().read(2), 1);
        checks.due("a file that is gone and held", x.holders(4), 4);
        checks.notNow("addDirectory", x, s -> s.addDirectory(11, -1));
        checks.outOfRange("setQuota", x, s -> s.setQuota(11, -2));
        checks.notNow("make", x, s -> s.make(0, 0, 1));
        checks.notNow("link of the file with all links", x, s -> s.link(11, 11));
        checks.notNow("link of a file that is gone", x, s -> s.link(4, 4));
        checks.notNow("unlink where no link is", x, s -> s.unlink(29, 4));
        checks.notNow("unlink of a file that is gone", x, s -> s.unlink(6, 6));
        checks.notNow("write in the tier 0, without room", x, s -> s.write(29, 40));
        checks.notNow("write in the tier 1, without room", x, s -> s.write(17, 28));
        checks.notNow("write in the tier 2", x, s -> s.write(1, 1));
        checks.notNow("write of one that is brought back", x, s -> s.write(2, 1));
        checks.notNow("write of a file that is gone", x, s -> s.write(4, 1));
        checks.notNow("read without coins", x, s -> s.read(3));
        checks.notNow("read of a file that is gone", x, s -> s.read(4));
        checks.notNow("hold of a file that is gone", x, s -> s.hold(3, 6));
        checks.noSuchOne("release", x, s -> s.release(5));
        checks.outOfRange("fund", x, s -> s.fund(3, 10001));
        checks.outOfRange("pass", x, s -> s.pass(101));
    }

    private static void tellsWhenAllIsFull() {
        Trial x = full();
        checks.changesNothing("day()", x, 91, s -> s.day());
        checks.changesNothing("directories()", x, 12, s -> s.directories());
        checks.changesNothing("files()", x, 30, s -> s.files());
        checks.changesNothing("usage(11)", x, 54, s -> s.usage(11));
        checks.changesNothing("usageByWalking(11)", x, 54, s -> s.usageByWalking(11));
        checks.changesNothing("bill(1)", x, 5, s -> s.bill(1));
        checks.changesNothing("coins(3)", x, 0, s -> s.coins(3));
        // what is told of a file: its size, home, kept, holders and tier
        tellsOfFile(x, 29, new int[] {39, 5, 0, 0, 0});
        tellsOfFile(x, 17, new int[] {27, 5, 0, 0, 1});
        tellsOfFile(x, 1, new int[] {30, 1, 11, 17, 2});
        tellsOfFile(x, 2, new int[] {12, 2, 0, 0, 2});
        tellsOfFile(x, 4, new int[] {0, -1, 17, 4, -1});
        tellsOfFile(x, 6, new int[] {0, -1, 0, 0, -1});
        tellsOfFile(x, 11, new int[] {21, 11, 0, 0, 2});
    }

    private static void tellsOfFile(Trial x, int file, int[] due) {
        checks.changesNothing("size(" + file + ")", x, due[0], s -> s.size(file));
        checks.changesNothing("home(" + file + ")", x, due[1], s -> s.home(file));
        checks.changesNothing("kept(" + file + ")", x, due[2], s -> s.kept(file));
        checks.changesNothing("holders(" + file + ")", x, due[3], s -> s.holders(file));
        checks.changesNothing("tier(" + file + ")", x, due[4], s -> s.tier(file));
    }
}
