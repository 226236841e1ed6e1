/** Promises 11 to 13, 23 and 24: coins, bills and days. */
final class BudgetTest {
    private static final Checks checks = new Checks();

    public static void main(String[] args) {
        promise11AnswersTheCoinsThen();
        promise11TakesTheFirstAndTheLastFunding();
        promise11GoesUpTo1000000();
        promise11RefusesADepartmentThatIsNotThere();
        promise11RefusesCoinsOutOfRange();
        promise11NamesTheFirstExceptionThatApplies();
        promise12AnswersWhatAllPayTogether();
        promise12OfAnEmptyServer();
        promise12PaysAsFarAsThereAreCoins();
        promise12PaysAgainWhenThereAreCoins();
        promise12EachDepartmentPaysForItself();
        promise12PaysTheBillOfTheDayBefore();
        promise12ManyDaysAreAsOneByOne();
        promise12PaysForWhatIsKept();
        promise12PaysTheLargestBill();
        promise12RefusesDaysOutOfRange();
        promise12GoesUpToTheDay10000();
        promise12NamesTheFirstExceptionThatApplies();
        promise13TellsTheDay();
        promise23TellsCoins();
        promise24BillsByTier();
        promise24BillsWhatIsKept();
        promise24BillsTheFilesOfTheDepartmentAlone();
        promise24RoundsUp();
        promise24RoundsTheSumAlone();
        promise24IsAsThingsAreNow();
        promises23And24RefuseADepartmentThatIsNotThere();
        checks.end("BudgetTest");
    }

    // ---- promise 11

    private static void promise11AnswersTheCoinsThen() {
        Trial x = new Trial();
        checks.due("fund(3, 1)", x.fund(3, 1), 101);
        checks.due("fund(3, 20)", x.fund(3, 20), 121);
        checks.due("fund(0, 5)", x.fund(0, 5), 105);
        checks.due("coins(3)", x.coins(3), 121);
        checks.due("coins(0)", x.coins(0), 105);
        checks.due("coins(1)", x.coins(1), 100);
        checks.due("coins(2)", x.coins(2), 100);
        x.empty(1);
        checks.due("of an empty one", x.fund(1, 7), 7);
    }

    private static void promise11TakesTheFirstAndTheLastFunding() {
        Trial x = new Trial();
        checks.due("fund(0, 1)", x.fund(0, 1), 101);
        checks.due("fund(0, 10000)", x.fund(0, 10000), 10101);
    }

    /** The department has 990100 coins, by the first of 99 fundings of 10000. */
    private static Trial almostRich(int department) {
        Trial x = new Trial();
        for (int i = 1; i <= 99; i++) {
            checks.due("fund", x.fund(department, 10000), 100 + 10000 * i);
        }
        return x;
    }

    private static void promise11GoesUpTo1000000() {
        Trial x = almostRich(0);
        checks.notNow("one above the most", x, s -> s.fund(0, 9901));
        checks.notNow("many above the most", x, s -> s.fund(0, 10000));
        checks.due("just the most", x.fund(0, 9900), 1000000);
        checks.notNow("one more", x, s -> s.fund(0, 1));
        checks.due("another department's", x.fund(1, 10000), 10100);
        x.make(0, 0, 1);
        x.pass(1);
        checks.notNow("two, when one is paid", x, s -> s.fund(0, 2));
        checks.due("one, when one is paid", x.fund(0, 1), 1000000);
    }

    private static void promise11RefusesADepartmentThatIsNotThere() {
        Trial x = new Trial();
        for (int department : Checks.outside(0, 3)) {
            checks.noSuchOne("fund(" + department + ", 1)", x, s -> s.fund(department, 1));
        }
    }

    private static void promise11RefusesCoinsOutOfRange() {
        Trial x = new Trial();
        for (int coins : Checks.outside(1, 10000)) {
            checks.outOfRange("fund(0, " + coins + ")", x, s -> s.fund(0, coins));
        }
        checks.outOfRange("fund(0, -1)", x, s -> s.fund(0, -1));
    }

    private static void promise11NamesTheFirstExceptionThatApplies() {
        Trial x = almostRich(3);
        x.fund(3, 9900);
        checks.noSuchOne("no department, none", x, s -> s.fund(4, 0));
        checks.noSuchOne("no department, too many", x, s -> s.fund(-1, 10001));
        checks.outOfRange("none, with the most", x, s -> s.fund(3, 0));
        checks.outOfRange("too many, with the most", x, s -> s.fund(3, 10001));
        checks.notNow("with the most", x, s -> s.fund(3, 1));
    }

    // ---- promise 12

    private static void promise12AnswersWhatAllPayTogether() {
        Trial x = new Trial();
        x.make(0, 0, 100);
        x.make(1, 0, 300);
        x.make(3, 0, 1);
        checks.due("a day", x.pass(1), 3 + 9 + 1);
        checks.due("coins(0)", x.coins(0), 97);
        checks.due("coins(1)", x.coins(1), 91);
        checks.due("coins(2)", x.coins(2), 100);
        checks.due("coins(3)", x.coins(3), 99);
        checks.due("two days", x.pass(2), 26);
        checks.due("coins(1)", x.coins(1), 73);
    }

    private static void promise12OfAnEmptyServer() {
        Trial x = new Trial();
        checks.due("a day", x.pass(1), 0);
        checks.due("100 days", x.pass(100), 0);
        checks.due("day", x.day(), 101);
        for (int department = 0; department < 4; department++) {
            checks.due("coins(" + department + ")", x.coins(department), 100);
        }
    }

    private static void promise12PaysAsFarAsThereAreCoins() {
        int[][] lefts = {{41, 41, 0}, {42, 42, 0}, {43, 42, 1}};
        for (int[] left : lefts) {
            Trial x = new Trial();
            x.empty(1);
            x.fund(1, left[0]);
            x.make(1, 0, 1000);
            x.make(1, 0, 400);
            checks.due("a bill of 42 with " + left[0], x.pass(1), left[1]);
            checks.due("coins then", x.coins(1), left[2]);
        }
        Trial y = new Trial();
        y.make(1, 0, 1000);
        y.make(1, 0, 400);
        checks.due("three days of 42 with 100", y.pass(3), 100);
        checks.due("coins", y.coins(1), 0);
        checks.due("a day without coins", y.pass(1), 0);
        checks.due("coins", y.coins(1), 0);
        checks.due("the bill without coins", y.bill(1), 42);
    }

    private static void promise12PaysAgainWhenThereAreCoins() {
        Trial x = new Trial();
        x.make(1, 0, 1000);
        x.pass(10);
        checks.due("coins", x.coins(1), 0);
        x.fund(1, 100);
        checks.due("nothing is owed", x.pass(1), 30);
        checks.due("coins", x.coins(1), 70);
        checks.due("the file is still there", x.size(0), 1000);
    }

    private static void promise12EachDepartmentPaysForItself() {
        Trial x = new Trial();
        x.make(0, 0, 1000);
        x.make(3, 0, 100);
        checks.due("ten days", x.pass(10), 100 + 30);
        checks.due("the one that has none", x.coins(0), 0);
        checks.due("one that pays", x.coins(3), 70);
        checks.due("one without a bill", x.coins(1), 100);
        checks.due("a day when one has none", x.pass(1), 3);
    }

    private static void promise12PaysTheBillOfTheDayBefore() {
        Trial x = new Trial();
        x.make(0, 0, 100);
        x.fund(0, 10000);
        checks.due("30 days in the tier 0", x.pass(30), 90);
        checks.due("59 days in the tier 1", x.pass(59), 118);
        checks.due("the last day in the tier 1", x.pass(1), 2);
        checks.due("a day in the tier 2", x.pass(1), 1);
        x.read(0);
        checks.due("two days in the tier 2, one behind them", x.pass(3), 1 + 1 + 3);
    }

    private static void promise12ManyDaysAreAsOneByOne() {
        Trial x = new Trial();
        Trial y = new Trial();
        for (Trial t : new Trial[] {x, y}) {
            t.fund(0, 10000);
            t.make(0, 0, 350);
            t.make(1, 0, 120);
            t.hold(0, 0);
            t.write(0, 1000);
            t.pass(95);
            t.read(0);
        }
        int sum = 0;
        for (int i = 0; i < 100; i++) {
            sum += x.pass(1);
        }
        checks.due("100 days at once", y.pass(100), sum);
        checks.due("the state then", Sight.of(y), Sight.of(x));
    }

    private static void promise12PaysForWhatIsKept() {
        Trial x = new Trial();
        x.make(2, 0, 500);
        x.hold(0, 0);
        x.write(0, 100);
        x.unlink(0, 0);
        checks.due("ten days for 600 that is kept", x.pass(10), 60);
        x.fund(2, 1000);
        checks.due("100 more days", x.pass(100), 600);
        x.release(0);
        checks.due("ten days for nothing", x.pass(10), 0);
        checks.due("coins", x.coins(2), 440);
    }

    private static void promise12PaysTheLargestBill() {
        Trial x = almostRich(0);
        for (int f = 0; f < 30; f++) {
            x.make(0, 0, 1000);
        }
        x.hold(0, 0);
        for (int i = 0; i < 300; i++) {
            x.write(0, 1000);
        }
        checks.due("bill", x.bill(0), 900 + 3000);
        checks.due("30 days in the tier 0", x.pass(30), 30 * 3900);
        checks.due("70 days in the tiers 1 and 2", x.pass(70), 60 * 3600 + 10 * 3300);
        checks.due("coins", x.coins(0), 990100 - 30 * 3900 - 60 * 3600 - 10 * 3300);
    }

    private static void promise12RefusesDaysOutOfRange() {
        Trial x = new Trial();
        x.make(0, 0, 1);
        for (int days : Checks.outside(1, 100)) {
            checks.outOfRange("pass(" + days + ")", x, s -> s.pass(days));
        }
        checks.outOfRange("pass(-1)", x, s -> s.pass(-1));
        checks.due("pass(1)", x.pass(1), 1);
        checks.due("day()", x.day(), 1);
        checks.due("pass(100)", x.pass(100), 99);
        checks.due("day()", x.day(), 101);
    }

    private static void promise12GoesUpToTheDay10000() {
        Trial x = new Trial();
        x.make(0, 0, 1);
        x.passTo(9950);
        checks.notNow("one day too many", x, s -> s.pass(51));
        checks.notNow("many days too many", x, s -> s.pass(100));
        x.pass(49);
        checks.notNow("two days, with one left", x, s -> s.pass(2));
        x.fund(0, 9);
        checks.due("one day, with one left", x.pass(1), 1);
        checks.due("the last day", x.day(), 10000);
        checks.notNow("one day behind the last", x, s -> s.pass(1));
        checks.notNow("many days behind the last", x, s -> s.pass(100));
        checks.due("making on the last day", x.make(0, 0, 10), 1);
        checks.due("its tier", x.tier(1), 0);
        Trial y = new Trial();
        y.passTo(9900);
        y.pass(100);
        checks.due("the last day by 100 at once", y.day(), 10000);
    }

    private static void promise12NamesTheFirstExceptionThatApplies() {
        Trial x = new Trial();
        x.passTo(10000);
        checks.outOfRange("no days, on the last", x, s -> s.pass(0));
        checks.outOfRange("101 days, on the last", x, s -> s.pass(101));
        checks.outOfRange("the most days, on the last", x, s -> s.pass(Integer.MAX_VALUE));
    }

    // ---- promise 13

    private static void promise13TellsTheDay() {
        Trial x = new Trial();
        checks.changesNothing("day()", x, 0, s -> s.day());
        x.pass(1);
        checks.due("day()", x.day(), 1);
        x.pass(100);
        checks.changesNothing("day()", x, 101, s -> s.day());
        x.make(0, 0, 1);
        x.read(0);
        checks.due("day() behind other calls", x.day(), 101);
        x.passTo(10000);
        checks.changesNothing("day()", x, 10000, s -> s.day());
    }

    // ---- promise 23

    private static void promise23TellsCoins() {
        Trial x = new Trial();
        for (int department = 0; department < 4; department++) {
            checks.due("at first", x.coins(department), 100);
            x.fund(department, department + 1);
            checks.due("funded", x.coins(department), 101 + department);
        }
        x.make(2, 0, 1000);
        x.pass(1);
        checks.due("coins(2)", x.coins(2), 73);
        checks.due("coins(1)", x.coins(1), 102);
        x.pass(3);
        checks.changesNothing("coins(2), run out", x, 0, s -> s.coins(2));
    }

    // ---- promise 24

    private static void promise24BillsByTier() {
        Trial x = new Trial();
        x.fund(0, 1000);
        x.make(0, 0, 200);
        checks.due("the tier 0", x.bill(0), 6);
        x.passTo(29);
        checks.due("the last day of the tier 0", x.bill(0), 6);
        x.passTo(30);
        checks.due("the tier 1", x.bill(0), 4);
        x.passTo(89);
        checks.due("the last day of the tier 1", x.bill(0), 4);
        x.passTo(90);
        checks.due("the tier 2", x.bill(0), 2);
        x.make(0, 0, 200);
        checks.due("two tiers", x.bill(0), 8);
        x.unlink(1, 0);
        checks.changesNothing("without the one that is gone", x, 2, s -> s.bill(0));
        x.read(0);
        checks.due("while it is brought back", x.bill(0), 2);
        x.pass(2);
        checks.due("when it is back", x.bill(0), 6);
    }

    private static void promise24BillsWhatIsKept() {
        Trial x = new Trial();
        x.fund(0, 1000);
        x.make(0, 0, 200);
        x.hold(0, 0);
        x.write(0, 100);
        checks.due("300 and 200 kept", x.bill(0), 5);
        x.passTo(30);
        checks.due("200 and 200 kept", x.bill(0), 4);
        x.passTo(90);
        checks.due("100 and 200 kept", x.bill(0), 3);
        x.unlink(0, 0);
        checks.due("300 kept", x.bill(0), 3);
        x.pass(100);
        checks.due("300 kept for long", x.bill(0), 3);
        x.release(0);
        checks.due("released", x.bill(0), 0);
    }

    private static void promise24BillsTheFilesOfTheDepartmentAlone() {
        Trial x = new Trial();
        x.addDirectory(0, -1);
        for (int department = 0; department < 4; department++) {
            x.make(department, department % 2, 100 * (department + 1));
        }
        x.make(3, 0, 100);
        checks.due("bill(0)", x.bill(0), 3);
        checks.due("bill(1)", x.bill(1), 6);
        checks.due("bill(2)", x.bill(2), 9);
        checks.due("bill(3)", x.bill(3), 15);
    }

    private static void promise24RoundsUp() {
        Trial none = new Trial();
        checks.changesNothing("0", none, 0, s -> s.bill(0));
        Trial x = new Trial();
        x.make(0, 0, 1);
        x.fund(0, 1000);
        x.passTo(90);
        checks.due("1", x.bill(0), 1);
        int[][] bills = {{98, 1}, {99, 1}, {100, 2}, {199, 2}, {200, 3}};
        for (int[] bill : bills) {
            Trial y = x.twin();
            y.make(0, 0, 1);
            y.hold(0, 1);
            y.write(1, 1);
            while (y.kept(1) < bill[0] - 3) {
                y.write(1, 1);
            }
            checks.due(1 + bill[0] + "", y.bill(0), bill[1]);
        }
    }

    private static void promise24RoundsTheSumAlone() {
        Trial x = new Trial();
        x.make(0, 0, 1);
        x.make(0, 0, 32);
        checks.due("3 and 96", x.bill(0), 1);
        x.hold(0, 0);
        x.write(0, 1);
        checks.due("3 and 96 and 1 kept", x.bill(0), 1);
        x.write(0, 1);
        checks.due("3 and 96 and 2 kept", x.bill(0), 2);
        Trial y = new Trial();
        for (int department = 0; department < 4; department++) {
            y.make(department, 0, 1);
        }
        checks.due("of each department", y.pass(1), 4);
    }

    private static void promise24IsAsThingsAreNow() {
        Trial x = new Trial();
        x.make(0, 0, 100);
        checks.due("made", x.bill(0), 3);
        x.write(0, 200);
        checks.due("written", x.bill(0), 6);
        x.passTo(30);
        x.read(0);
        checks.due("read", x.bill(0), 6);
        x.unlink(0, 0);
        checks.due("gone", x.bill(0), 0);
        x.make(1, 0, 1000);
        x.pass(10);
        checks.due("without coins", x.coins(1), 0);
        checks.changesNothing("the same without coins", x, 30, s -> s.bill(1));
    }

    private static void promises23And24RefuseADepartmentThatIsNotThere() {
        Trial x = new Trial();
        for (int department : Checks.outside(0, 3)) {
            checks.noSuchOne("coins(" + department + ")", x, s -> s.coins(department));
            checks.noSuchOne("bill(" + department + ")", x, s -> s.bill(department));
        }
    }
}
