/** Promises 8 and 22: tiers by last use, reading, and bringing back. */
final class ReadTest {
    private static final Checks checks = new Checks();

    public static void main(String[] args) {
        promise22ChangesAfter30And90Days();
        promise22IsOfEachFileAlone();
        promise22OfAFileThatIsGone();
        promise22RefusesAFileThatIsNotThere();
        promise22OnlyMakingWritingAndReadingUseAFile();
        promise8UsesAFileInTheTiers0And1();
        promise8CostsNothingInTheTiers0And1();
        promise8ReadsUpTo89DaysBehindTheLastUse();
        promise8BringsBackOnTheSecondDay();
        promise8IsPaidOnceForEachBringingBack();
        promise8CostsACoinForEach10RoundedUp();
        promise8CostsBySizeAsItIs();
        promise8NeedsJustSoManyCoins();
        promise8IsPaidByItsDepartmentAlone();
        promise8AFileThatComesBackAgesFromThatDayOn();
        promise8BringsBackOverALongPass();
        promise8BringsBackSeveralFilesAtOnce();
        promise8HoldsAndLinksDoNotHinderBringingBack();
        promise8OnTheLastDays();
        promise8RefusesAFileThatIsNotThere();
        promise8RefusesAFileThatIsGone();
        checks.end("ReadTest");
    }

    private static Trial withOneFile(int size) {
        Trial x = new Trial();
        x.make(0, 0, size);
        return x;
    }

    /** Its department has enough coins for all that follows. */
    private static Trial inTheTier2(int size) {
        Trial x = withOneFile(size);
        x.fund(0, 10000);
        x.passTo(90);
        return x;
    }

    private static void tierOn(Trial x, int day, int due) {
        x.passTo(day);
        checks.changesNothing("tier(0) on the day " + day, x, due, s -> s.tier(0));
    }

    // ---- promise 22

    private static void promise22ChangesAfter30And90Days() {
        Trial x = withOneFile(1);
        tierOn(x, 0, 0);
        tierOn(x, 1, 0);
        tierOn(x, 29, 0);
        tierOn(x, 30, 1);
        tierOn(x, 31, 1);
        tierOn(x, 89, 1);
        tierOn(x, 90, 2);
        tierOn(x, 91, 2);
        tierOn(x, 10000, 2);
    }

    private static void promise22IsOfEachFileAlone() {
        Trial x = withOneFile(1);
        x.fund(1, 1000);
        x.passTo(60);
        x.make(1, 0, 1);
        x.passTo(89);
        checks.due("89 days", x.tier(0), 1);
        checks.due("29 days", x.tier(1), 0);
        x.passTo(90);
        checks.due("90 days", x.tier(0), 2);
        checks.due("30 days", x.tier(1), 1);
        x.read(1);
        checks.due("not read", x.tier(0), 2);
        checks.due("read", x.tier(1), 0);
    }

    private static void promise22OfAFileThatIsGone() {
        Trial x = withOneFile(1);
        x.hold(0, 0);
        x.unlink(0, 0);
        checks.changesNothing("gone", x, -1, s -> s.tier(0));
        x.pass(100);
        checks.changesNothing("gone for long", x, -1, s -> s.tier(0));
        Trial y = inTheTier2(1);
        y.read(0);
        y.unlink(0, 0);
        checks.due("gone while it is brought back", y.tier(0), -1);
        y.pass(2);
        checks.due("gone when it would be back", y.tier(0), -1);
        checks.notNow("reading it then", y, s -> s.read(0));
    }

    private static void promise22RefusesAFileThatIsNotThere() {
        Trial x = new Trial();
        for (int file : Checks.outside(0, -1)) {
            checks.noSuchOne("tier(" + file + ") of none", x, s -> s.tier(file));
        }
        x.fillFiles(30, 0);
        checks.due("tier of the last one", x.tier(29), 0);
        for (int file : Checks.outside(0, 29)) {
            checks.noSuchOne("tier(" + file + ") of 30", x, s -> s.tier(file));
        }
    }

    private static void promise22OnlyMakingWritingAndReadingUseAFile() {
        Trial x = new Trial();
        x.addDirectory(0, -1);
        x.make(0, 0, 1);
        x.pass(30);
        x.link(0, 1);
        checks.due("linked", x.tier(0), 1);
        x.unlink(0, 0);
        checks.due("unlinked", x.tier(0), 1);
        x.hold(0, 0);
        checks.due("held", x.tier(0), 1);
        x.release(0);
        checks.due("released", x.tier(0), 1);
        x.setQuota(0, 1);
        checks.notNow("a write that is refused", x, s -> s.write(0, 2));
        checks.due("not written", x.tier(0), 1);
        x.fund(0, 1);
        checks.due("funded", x.tier(0), 1);
        x.write(0, 1);
        checks.due("written", x.tier(0), 0);
    }

    // ---- promise 8

    private static void promise8UsesAFileInTheTiers0And1() {
        Trial x = withOneFile(1);
        checks.changesNothing("on its day", x, 0, s -> s.read(0));
        x.passTo(29);
        checks.due("in the tier 0", x.read(0), 0);
        tierOn(x, 58, 0);
        tierOn(x, 59, 1);
        checks.due("on the first day of the tier 1", x.read(0), 0);
        tierOn(x, 59, 0);
        tierOn(x, 88, 0);
        tierOn(x, 89, 1);
        tierOn(x, 148, 1);
        tierOn(x, 149, 2);
    }

    private static void promise8CostsNothingInTheTiers0And1() {
        Trial x = withOneFile(1000);
        x.read(0);
        checks.due("coins", x.coins(0), 100);
        x.passTo(30);
        checks.due("coins run out", x.coins(0), 0);
        checks.due("in the tier 1, without coins", x.read(0), 0);
        checks.due("in the tier 0, without coins", x.read(0), 0);
        checks.due("coins", x.coins(0), 0);
    }

    private static void promise8ReadsUpTo89DaysBehindTheLastUse() {
        Trial x = withOneFile(1);
        x.fund(0, 1000);
        x.passTo(89);
        checks.due("89 days behind it", x.twin().read(0), 0);
        x.passTo(90);
        checks.due("90 days behind it", x.twin().read(0), 2);
        x.passTo(91);
        checks.due("91 days behind it", x.twin().read(0), 2);
    }

    private static void promise8BringsBackOnTheSecondDay() {
        Trial x = inTheTier2(101);
        checks.due("read", x.read(0), 2);
        checks.due("the tier", x.tier(0), 2);
        checks.changesNothing("read again on that day", x, 2, s -> s.read(0));
        checks.due("bill while it is brought back", x.bill(0), 2);
        checks.due("what a day is paid with", x.pass(1), 2);
        checks.changesNothing("read on the next day", x, 1, s -> s.read(0));
        checks.due("the tier", x.tier(0), 2);
        checks.due("bill while it is brought back", x.bill(0), 2);
        checks.due("the second day is paid as the day before", x.pass(1), 2);
        checks.changesNothing("the tier on the second day", x, 0, s -> s.tier(0));
        checks.due("bill when it is back", x.bill(0), 4);
        checks.changesNothing("read when it is back", x, 0, s -> s.read(0));
        checks.due("what a day is paid with then", x.pass(1), 4);
    }

    private static void promise8IsPaidOnceForEachBringingBack() {
        Trial x = inTheTier2(101);
        int before = x.coins(0);
        x.read(0);
        checks.due("coins after the read", x.coins(0), before - 11);
        x.read(0);
        checks.due("coins after a second read on that day", x.coins(0), before - 11);
        x.pass(1);
        x.read(0);
        checks.due("coins after a read on the next day", x.coins(0), before - 11 - 2);
        x.pass(1);
        x.read(0);
        checks.due("coins after a read when it is back", x.coins(0), before - 11 - 2 - 2);
        x.pass(90);
        int later = x.coins(0);
        checks.due("in the tier 2 once more", x.read(0), 2);
        checks.due("coins after that", x.coins(0), later - 11);
    }

    private static void promise8CostsACoinForEach10RoundedUp() {
        int[][] costs = {{1, 1}, {9, 1}, {10, 1}, {11, 2}, {19, 2}, {20, 2}, {21, 3}, {500, 50}, {990, 99}, {991, 100}, {1000, 100}};
        for (int[] cost : costs) {
            Trial x = inTheTier2(cost[0]);
            int before = x.coins(0);
            checks.due("read of " + cost[0], x.read(0), 2);
            checks.due("what is left after reading " + cost[0], x.coins(0), before - cost[1]);
        }
    }

    private static void promise8CostsBySizeAsItIs() {
        Trial x = withOneFile(1000);
        x.fund(0, 10000);
        x.hold(0, 0);
        x.write(0, 15);
        x.passTo(90);
        int before = x.coins(0);
        x.read(0);
        checks.due("what is kept costs nothing to bring back", x.coins(0), before - 2);
    }

    private static void promise8NeedsJustSoManyCoins() {
        Trial x = withOneFile(995);
        x.passTo(90);
        checks.due("coins", x.coins(0), 0);
        checks.notNow("without coins", x, s -> s.read(0));
        x.fund(0, 99);
        checks.notNow("one coin too few", x, s -> s.read(0));
        x.fund(0, 1);
        checks.due("just enough", x.read(0), 2);
        checks.due("coins", x.coins(0), 0);
        checks.changesNothing("read again without coins", x, 2, s -> s.read(0));
        x.pass(1);
        checks.changesNothing("read a day later without coins", x, 1, s -> s.read(0));
        x.pass(1);
        checks.due("read when it is back, without coins", x.read(0), 0);
        Trial y = withOneFile(1);
        y.make(0, 0, 1000);
        y.passTo(90);
        checks.notNow("the least cost without coins", y, s -> s.read(0));
        y.fund(0, 1);
        checks.due("the least cost with one coin", y.read(0), 2);
    }

    private static void promise8IsPaidByItsDepartmentAlone() {
        Trial x = new Trial();
        x.make(2, 0, 500);
        x.pass(100);
        checks.due("coins(2)", x.coins(2), 0);
        checks.notNow("the others' coins do not count", x, s -> s.read(0));
        x.fund(2, 50);
        x.read(0);
        checks.due("coins(2)", x.coins(2), 0);
        for (int department : new int[] {0, 1, 3}) {
            checks.due("coins(" + department + ")", x.coins(department), 100);
        }
    }

    private static void promise8AFileThatComesBackAgesFromThatDayOn() {
        Trial x = inTheTier2(1);
        x.read(0);
        tierOn(x, 91, 2);
        tierOn(x, 92, 0);
        tierOn(x, 121, 0);
        tierOn(x, 122, 1);
        tierOn(x, 181, 1);
        tierOn(x, 182, 2);
        checks.due("brought back once more", x.read(0), 2);
    }

    private static void promise8BringsBackOverALongPass() {
        Trial x = inTheTier2(100);
        x.read(0);
        // 2 days in the tier 2, 30 in the tier 0, 60 in the tier 1, 8 in the tier 2 again
        checks.due("100 days at once", x.pass(100), 2 + 90 + 120 + 8);
        checks.due("the tier", x.tier(0), 2);
    }

    private static void promise8BringsBackSeveralFilesAtOnce() {
        Trial x = new Trial();
        x.fund(0, 10000);
        x.fund(1, 10000);
        x.make(0, 0, 100);
        x.make(0, 0, 10);
        x.make(1, 0, 30);
        x.passTo(90);
        int coins0 = x.coins(0);
        int coins1 = x.coins(1);
        x.read(0);
        x.pass(1);
        x.read(1);
        x.read(2);
        checks.due("coins(0)", x.coins(0), coins0 - 10 - 2 - 1);
        checks.due("coins(1)", x.coins(1), coins1 - 1 - 3);
        checks.due("the first", x.read(0), 1);
        checks.due("the second", x.read(1), 2);
        x.pass(1);
        checks.due("the first is back", x.tier(0), 0);
        checks.due("the second is not", x.tier(1), 2);
        checks.due("the third is not", x.tier(2), 2);
        x.pass(1);
        checks.due("the second is back", x.tier(1), 0);
        checks.due("the third is back", x.tier(2), 0);
    }

    private static void promise8HoldsAndLinksDoNotHinderBringingBack() {
        Trial x = inTheTier2(100);
        x.addDirectory(0, 0);
        x.setQuota(0, 0);
        x.hold(3, 0);
        x.link(0, 1);
        checks.due("read without room", x.read(0), 2);
        x.release(3);
        x.unlink(0, 0);
        x.pass(1);
        checks.due("a day later", x.read(0), 1);
        x.pass(1);
        checks.due("it is back", x.tier(0), 0);
        checks.due("its home", x.home(0), 1);
        checks.due("nothing is kept by reading", x.kept(0), 0);
    }

    private static void promise8OnTheLastDays() {
        Trial x = withOneFile(1);
        x.passTo(9998);
        x.fund(0, 1);
        checks.due("read two days before the last", x.read(0), 2);
        x.passTo(10000);
        checks.due("back on the last day", x.tier(0), 0);
        Trial y = withOneFile(1);
        y.passTo(10000);
        y.fund(0, 1);
        checks.due("read on the last day", y.read(0), 2);
        checks.due("it stays in the tier 2", y.tier(0), 2);
        checks.changesNothing("read again", y, 2, s -> s.read(0));
    }

    private static void promise8RefusesAFileThatIsNotThere() {
        Trial x = new Trial();
        for (int file : Checks.outside(0, -1)) {
            checks.noSuchOne("read(" + file + ") of none", x, s -> s.read(file));
        }
        x.fillFiles(30, 0);
        x.passTo(30);
        checks.due("read of the last one", x.read(29), 0);
        checks.due("used by that", x.tier(29), 0);
        checks.due("the one before it is not", x.tier(28), 1);
        for (int file : Checks.outside(0, 29)) {
            checks.noSuchOne("read(" + file + ") of 30", x, s -> s.read(file));
        }
    }

    private static void promise8RefusesAFileThatIsGone() {
        Trial x = withOneFile(1);
        x.make(0, 0, 1);
        x.hold(0, 0);
        x.unlink(0, 0);
        checks.notNow("held", x, s -> s.read(0));
        x.release(0);
        checks.notNow("not held", x, s -> s.read(0));
        x.fund(0, 10000);
        x.passTo(90);
        x.unlink(1, 0);
        checks.notNow("gone in the tier 2, with coins", x, s -> s.read(1));
    }
}
