/** Promises 8 and 22: tiers by last use, reading and bringing back. */
final class TierTest {
    private static final Checks checks = new Checks();

    public static void main(String[] args) {
        promise22TiersByLastUse();
        promise22OfAFileThatIsGone();
        promise22RefusesUnknownFiles();
        promise8ReadingUsesAFile();
        promise8BringsBack();
        promise8CostsACoinForEach10RoundedUp();
        promise8IsPaidByTheMakerAlone();
        promise8Refuses();
        promise8AFileThatComesBackAgesAnew();
        onlyMakingWritingAndReadingUseAFile();
        checks.end("TierTest");
    }

    private static void promise22TiersByLastUse() {
        HoldServer x = new HoldServer();
        x.make(0, 0, 1);
        checks.due("on its day", x.tier(0), 0);
        x.pass(29);
        checks.due("29 days ago", x.tier(0), 0);
        x.pass(1);
        checks.due("30 days ago", x.tier(0), 1);
        x.pass(59);
        checks.due("89 days ago", x.tier(0), 1);
        x.pass(1);
        checks.due("90 days ago", x.tier(0), 2);
        x.pass(100);
        checks.due("190 days ago", x.tier(0), 2);
        x.fund(1, 1);
        x.make(1, 0, 1);
        checks.due("a file made later", x.tier(1), 0);
        x.pass(89);
        checks.due("89 days behind that", x.tier(1), 1);
        x.write(1, 1);
        checks.due("written", x.tier(1), 0);
        x.pass(30);
        checks.due("30 days behind the writing", x.tier(1), 1);
    }

    private static void promise22OfAFileThatIsGone() {
        HoldServer x = new HoldServer();
        x.make(0, 0, 1);
        x.hold(0, 0);
        x.unlink(0, 0);
        checks.due("gone", x.tier(0), -1);
        x.pass(100);
        checks.due("gone for long", x.tier(0), -1);
        HoldServer y = new HoldServer();
        y.make(0, 0, 1);
        y.pass(90);
        y.read(0);
        y.unlink(0, 0);
        checks.due("gone while it is brought back", y.tier(0), -1);
        y.pass(2);
        checks.due("gone when it would be back", y.tier(0), -1);
        checks.notNow("reading it then", y, () -> y.read(0));
    }

    private static void promise22RefusesUnknownFiles() {
        HoldServer x = new HoldServer();
        x.make(0, 0, 1);
        for (int file : new int[] {-1, 1, 30, Integer.MIN_VALUE, Integer.MAX_VALUE}) {
            checks.noSuchOne("tier(" + file + ")", x, () -> x.tier(file));
        }
    }

    private static void promise8ReadingUsesAFile() {
        HoldServer x = new HoldServer();
        x.make(0, 0, 1000);
        checks.due("in the tier 0", x.read(0), 0);
        checks.due("for nothing", x.coins(0), 100);
        x.pass(29);
        checks.due("coins run out", x.coins(0), 0);
        checks.due("without coins", x.read(0), 0);
        x.pass(29);
        checks.due("29 days behind the reading", x.tier(0), 0);
        x.pass(60);
        checks.due("89 days behind the reading", x.tier(0), 1);
        checks.due("in the tier 1", x.read(0), 0);
        checks.due("used by that", x.tier(0), 0);
    }

    private static void promise8BringsBack() {
        HoldServer x = new HoldServer();
        x.make(0, 0, 101);
        x.pass(90);
        x.fund(0, 100);
        checks.due("read", x.read(0), 2);
        checks.due("the tier", x.tier(0), 2);
        checks.due("coins", x.coins(0), 89);
        checks.due("read again on that day", x.read(0), 2);
        checks.due("coins, paid once", x.coins(0), 89);
        checks.due("bill while it is brought back", x.bill(0), 2);
        checks.due("a day", x.pass(1), 2);
        checks.due("read on the next day", x.read(0), 1);
        checks.due("the tier", x.tier(0), 2);
        checks.due("the second day, at the bill of the day before", x.pass(1), 2);
        checks.due("the tier", x.tier(0), 0);
        checks.due("coins", x.coins(0), 85);
        checks.due("bill when it is back", x.bill(0), 4);
        checks.due("read", x.read(0), 0);
    }

    private static void promise8CostsACoinForEach10RoundedUp() {
        int[][] costs = {{1, 1}, {9, 1}, {10, 1}, {11, 2}, {20, 2}, {991, 100}, {1000, 100}};
        for (int[] cost : costs) {
            HoldServer x = new HoldServer();
            x.make(0, 0, cost[0]);
            x.pass(90);
            int left = x.coins(0);
            x.fund(0, cost[1]);
            checks.due("read of " + cost[0], x.read(0), 2);
            checks.due("what is left after reading " + cost[0], x.coins(0), left);
        }
    }

    private static void promise8IsPaidByTheMakerAlone() {
        HoldServer x = new HoldServer();
        x.make(2, 0, 500);
        x.pass(100);
        checks.due("coins(2)", x.coins(2), 0);
        x.fund(2, 49);
        checks.notNow("one coin too few", x, () -> x.read(0));
        x.fund(2, 1);
        checks.due("just enough", x.read(0), 2);
        checks.due("coins(2)", x.coins(2), 0);
        checks.due("others pay nothing", x.coins(0) + x.coins(1) + x.coins(3), 300);
        checks.due("read again without coins", x.read(0), 2);
    }

    private static void promise8Refuses() {
        HoldServer x = new HoldServer();
        x.make(0, 0, 1);
        for (int file : new int[] {-1, 1, 30, Integer.MIN_VALUE, Integer.MAX_VALUE}) {
            checks.noSuchOne("read(" + file + ")", x, () -> x.read(file));
        }
        x.unlink(0, 0);
        checks.notNow("a file that is gone", x, () -> x.read(0));
    }

    private static void promise8AFileThatComesBackAgesAnew() {
        HoldServer x = new HoldServer();
        x.make(0, 0, 1);
        x.pass(90);
        x.fund(0, 10);
        x.read(0);
        x.pass(31);
        checks.due("29 days behind its coming", x.tier(0), 0);
        x.pass(1);
        checks.due("30 days behind its coming", x.tier(0), 1);
        x.pass(59);
        checks.due("89 days behind its coming", x.tier(0), 1);
        x.pass(1);
        checks.due("90 days behind its coming", x.tier(0), 2);
        int before = x.coins(0);
        x.fund(0, 1);
        checks.due("brought back once more", x.read(0), 2);
        checks.due("and paid once more", x.coins(0), before);
    }

    private static void onlyMakingWritingAndReadingUseAFile() {
        HoldServer x = new HoldServer();
        x.addDirectory(0, -1);
        x.make(0, 0, 1);
        x.pass(30);
        x.link(0, 1);
        checks.due("linked", x.tier(0), 1);
        x.unlink(0, 0);
        checks.due("unlinked", x.tier(0), 1);
        x.hold(0, 0);
        checks.due("held", x.tier(0), 1);
        x.release(0);
        checks.due("released", x.tier(0), 1);
        x.setQuota(0, 1);
        checks.notNow("a write that is refused", x, () -> x.write(0, 2));
        checks.due("not written", x.tier(0), 1);
        x.write(0, 1);
        checks.due("written", x.tier(0), 0);
    }
}
