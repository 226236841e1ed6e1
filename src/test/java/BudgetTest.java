/** Promises 11 to 13, 23 and 24: coins, bills and days. */
final class BudgetTest {
    private static final Checks checks = new Checks();

    public static void main(String[] args) {
        promise11Funds();
        promise11Refuses();
        promise12PaysDayByDay();
        promise12PaysAsFarAsThereAreCoins();
        promise12PaysTheBillOfTheDayBefore();
        promise12Refuses();
        promise13TellsTheDay();
        promise23TellsCoins();
        promise24BillsByTier();
        promise24BillsWhatIsKept();
        promise24RoundsTheSumUp();
        promises23And24RefuseUnknownDepartments();
        checks.end("BudgetTest");
    }

    private static void promise11Funds() {
        HoldServer x = new HoldServer();
        checks.due("fund(3, 1)", x.fund(3, 1), 101);
        checks.due("fund(3, 10000)", x.fund(3, 10000), 10101);
        checks.due("the others", x.coins(0) + x.coins(1) + x.coins(2), 300);
        HoldServer y = new HoldServer();
        for (int i = 1; i <= 99; i++) {
            checks.due("fund", y.fund(0, 10000), 100 + 10000 * i);
        }
        checks.notNow("one above the most", y, () -> y.fund(0, 9901));
        checks.notNow("many above the most", y, () -> y.fund(0, 10000));
        checks.due("just the most", y.fund(0, 9900), 1000000);
        checks.notNow("one more", y, () -> y.fund(0, 1));
        checks.outOfRange("none, with the most", y, () -> y.fund(0, 0));
        checks.outOfRange("too many, with the most", y, () -> y.fund(0, 10001));
    }

    private static void promise11Refuses() {
        HoldServer x = new HoldServer();
        for (int department : new int[] {-1, 4, Integer.MIN_VALUE, Integer.MAX_VALUE}) {
            checks.noSuchOne("fund(" + department + ", 1)", x, () -> x.fund(department, 1));
            checks.noSuchOne("fund(" + department + ", 0)", x, () -> x.fund(department, 0));
        }
        for (int coins : new int[] {0, -1, 10001, Integer.MIN_VALUE, Integer.MAX_VALUE}) {
            checks.outOfRange("fund(0, " + coins + ")", x, () -> x.fund(0, coins));
        }
    }

    private static void promise12PaysDayByDay() {
        HoldServer x = new HoldServer();
        checks.due("nothing to pay", x.pass(1), 0);
        x.make(0, 0, 100);
        x.make(1, 0, 300);
        x.make(3, 0, 1);
        checks.due("a day, by all together", x.pass(1), 13);
        checks.due("coins(0)", x.coins(0), 97);
        checks.due("coins(1)", x.coins(1), 91);
        checks.due("coins(2)", x.coins(2), 100);
        checks.due("coins(3)", x.coins(3), 99);
        checks.due("two days", x.pass(2), 26);
    }

    private static void promise12PaysAsFarAsThereAreCoins() {
        HoldServer x = new HoldServer();
        x.make(1, 0, 1000);
        x.make(1, 0, 400);
        checks.due("two days", x.pass(2), 84);
        checks.due("the third day, as far as there are coins", x.pass(1), 16);
        checks.due("coins(1)", x.coins(1), 0);
        checks.due("a day without coins", x.pass(1), 0);
        x.fund(1, 42);
        checks.due("nothing is owed", x.pass(1), 42);
        checks.due("what it bills without coins", x.bill(1), 42);
    }

    private static void promise12PaysTheBillOfTheDayBefore() {
        HoldServer x = new HoldServer();
        x.make(0, 0, 100);
        x.fund(0, 10000);
        checks.due("30 days in the tier 0", x.pass(30), 90);
        checks.due("60 days in the tier 1", x.pass(60), 120);
        checks.due("10 days in the tier 2", x.pass(10), 10);
        HoldServer y = new HoldServer();
        y.make(0, 0, 100);
        y.fund(0, 10000);
        checks.due("the same days in one", y.pass(100), 220);
        checks.due("coins", y.coins(0), 9880);
        y.read(0);
        checks.due("two days in the tier 2, one behind them", y.pass(3), 5);
    }

    private static void promise12Refuses() {
        HoldServer x = new HoldServer();
        x.make(0, 0, 1);
        for (int days : new int[] {0, -1, 101, Integer.MIN_VALUE, Integer.MAX_VALUE}) {
            checks.outOfRange("pass(" + days + ")", x, () -> x.pass(days));
        }
        for (int i = 0; i < 99; i++) {
            x.pass(100);
        }
        x.pass(50);
        checks.notNow("one day too many", x, () -> x.pass(51));
        checks.notNow("many days too many", x, () -> x.pass(100));
        x.pass(50);
        checks.due("the last day", x.day(), 10000);
        checks.notNow("a day behind the last", x, () -> x.pass(1));
        checks.outOfRange("a wrong number of days on the last", x, () -> x.pass(0));
        checks.outOfRange("too many days on the last", x, () -> x.pass(101));
        x.fund(0, 1);
        checks.due("bringing back on the last day", x.read(0), 2);
        checks.due("its tier", x.tier(0), 2);
    }

    private static void promise13TellsTheDay() {
        HoldServer x = new HoldServer();
        checks.due("day()", x.day(), 0);
        x.pass(1);
        checks.due("day()", x.day(), 1);
        x.pass(100);
        checks.due("day()", x.day(), 101);
        checks.outOfRange("pass(101)", x, () -> x.pass(101));
        checks.due("day()", x.day(), 101);
    }

    private static void promise23TellsCoins() {
        HoldServer x = new HoldServer();
        for (int department = 0; department < 4; department++) {
            checks.due("at first", x.coins(department), 100);
            x.fund(department, department + 1);
            checks.due("funded", x.coins(department), 101 + department);
        }
        x.make(2, 0, 1000);
        x.pass(1);
        checks.due("coins(2)", x.coins(2), 73);
        checks.due("coins(1)", x.coins(1), 102);
    }

    private static void promise24BillsByTier() {
        HoldServer x = new HoldServer();
        x.make(0, 0, 200);
        checks.due("the tier 0", x.bill(0), 6);
        x.pass(30);
        checks.due("the tier 1", x.bill(0), 4);
        x.pass(60);
        checks.due("the tier 2", x.bill(0), 2);
        x.fund(0, 1);
        x.make(0, 0, 200);
        checks.due("two tiers", x.bill(0), 8);
        checks.due("another department", x.bill(1), 0);
        x.unlink(1, 0);
        checks.due("without the one that is gone", x.bill(0), 2);
        checks.due("billing costs nothing", x.coins(0), 1);
    }

    private static void promise24BillsWhatIsKept() {
        HoldServer x = new HoldServer();
        x.make(0, 0, 200);
        x.hold(0, 0);
        x.write(0, 100);
        checks.due("300 and 200 kept", x.bill(0), 5);
        x.pass(30);
        checks.due("200 and 200 kept", x.bill(0), 4);
        x.pass(60);
        checks.due("100 and 200 kept", x.bill(0), 3);
        x.unlink(0, 0);
        checks.due("300 kept", x.bill(0), 3);
        x.fund(0, 10);
        checks.due("it is paid", x.pass(2), 6);
        x.release(0);
        checks.due("released", x.bill(0), 0);
    }

    private static void promise24RoundsTheSumUp() {
        HoldServer x = new HoldServer();
        x.make(0, 0, 1);
        checks.due("3", x.bill(0), 1);
        x.make(0, 0, 32);
        checks.due("99, rounded once", x.bill(0), 1);
        x.hold(0, 0);
        x.write(0, 1);
        checks.due("100", x.bill(0), 1);
        x.write(0, 1);
        checks.due("101", x.bill(0), 2);
    }

    private static void promises23And24RefuseUnknownDepartments() {
        HoldServer x = new HoldServer();
        for (int department : new int[] {-1, 4, Integer.MIN_VALUE, Integer.MAX_VALUE}) {
            checks.noSuchOne("coins(" + department + ")", x, () -> x.coins(department));
            checks.noSuchOne("bill(" + department + ")", x, () -> x.bill(department));
        }
    }
}
