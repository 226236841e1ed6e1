/** Promises 4 to 7, 15, 18 and 19: making, linking, unlinking and writing files. */
final class FileTest {
    private static final Checks checks = new Checks();
    private static final int[] NO_FILES = {-1, 1, 30, Integer.MIN_VALUE, Integer.MAX_VALUE};
    private static final int[] NO_SIZES = {0, -1, 1001, Integer.MIN_VALUE, Integer.MAX_VALUE};

    public static void main(String[] args) {
        promise4MakesFiles();
        promise4RefusesWrongArguments();
        promise4NeedsRoomOnTheWholeWay();
        promise4NeedsCoins();
        promise4NamesTheFirstExceptionThatApplies();
        promise5Links();
        promise5Refuses();
        promise6UnlinksInTheOrderOfLinks();
        promise6HeedsNoQuota();
        promise6Refuses();
        promise7WritesAndGrows();
        promise7Refuses();
        promise7NeedsCoinsToGrowAlone();
        promises15And18And19();
        checks.end("FileTest");
    }

    private static void promise4MakesFiles() {
        HoldServer x = new HoldServer();
        x.addDirectory(0, -1);
        for (int f = 0; f < 30; f++) {
            checks.due("make", x.make(f % 4, f % 2, 1 + f), f);
            checks.due("its size", x.size(f), 1 + f);
            checks.due("its home", x.home(f), f % 2);
            checks.due("its tier", x.tier(f), 0);
            checks.due("its kept", x.kept(f), 0);
            checks.due("its holders", x.holders(f), 0);
        }
        checks.notNow("a 31st file", x, () -> x.make(0, 0, 1));
        x.unlink(0, 0);
        checks.notNow("a 31st file when one is gone", x, () -> x.make(0, 0, 1));
        checks.due("the largest file", new HoldServer().make(3, 0, 1000), 0);
    }

    private static void promise4RefusesWrongArguments() {
        HoldServer x = new HoldServer();
        for (int department : new int[] {-1, 4, Integer.MIN_VALUE, Integer.MAX_VALUE}) {
            checks.noSuchOne("make by " + department, x, () -> x.make(department, 0, 1));
        }
        for (int directory : new int[] {-1, 1, Integer.MIN_VALUE, Integer.MAX_VALUE}) {
            checks.noSuchOne("make in " + directory, x, () -> x.make(0, directory, 1));
        }
        for (int size : NO_SIZES) {
            checks.outOfRange("make of " + size, x, () -> x.make(0, 0, size));
        }
        checks.due("the next number", x.make(0, 0, 1), 0);
    }

    private static void promise4NeedsRoomOnTheWholeWay() {
        HoldServer x = new HoldServer();
        x.addDirectory(0, 500);
        x.addDirectory(1, -1);
        x.addDirectory(2, 300);
        x.addDirectory(0, 10);
        x.make(0, 3, 300);
        checks.notNow("above its own quota", x, () -> x.make(0, 3, 1));
        x.make(1, 2, 199);
        checks.notNow("above the quota of a parent's parent", x, () -> x.make(1, 2, 2));
        checks.due("just up to it", x.make(1, 2, 1), 2);
        checks.due("where another directory's quota does not reach", x.make(1, 0, 1000), 3);
        x.setQuota(0, 1505);
        checks.notNow("above the root's quota", x, () -> x.make(1, 4, 6));
        checks.due("just up to the root's quota", x.make(1, 4, 5), 4);
    }

    private static void promise4NeedsCoins() {
        HoldServer x = new HoldServer();
        x.make(2, 0, 1000);
        x.pass(3);
        checks.due("coins before the last day", x.coins(2), 10);
        checks.due("make with few coins", x.make(2, 0, 1), 1);
        x.pass(1);
        checks.due("coins", x.coins(2), 0);
        checks.notNow("make without coins", x, () -> x.make(2, 0, 1));
        checks.due("make by another department", x.make(3, 0, 1), 2);
        x.fund(2, 1);
        checks.due("make with one coin", x.make(2, 0, 1000), 3);
        checks.due("what making costs", x.coins(2), 1);
    }

    private static void promise4NamesTheFirstExceptionThatApplies() {
        HoldServer x = new HoldServer();
        x.setQuota(0, 0);
        checks.noSuchOne("department, size and room wrong", x, () -> x.make(4, 0, 0));
        checks.noSuchOne("directory, size and room wrong", x, () -> x.make(0, 1, 1001));
        checks.outOfRange("size and room wrong", x, () -> x.make(0, 0, 1001));
        checks.notNow("room wrong", x, () -> x.make(0, 0, 1000));
    }

    private static HoldServer withOneFile() {
        HoldServer x = new HoldServer();
        x.addDirectory(0, -1);
        x.addDirectory(1, -1);
        x.addDirectory(0, -1);
        x.make(0, 2, 40);
        return x;
    }

    private static void promise5Links() {
        HoldServer x = new HoldServer();
        for (int d = 1; d < 12; d++) {
            x.addDirectory(0, 40);
        }
        x.make(0, 5, 40);
        int links = 1;
        for (int d = 11; d >= 0; d--) {
            if (d != 5) {
                links++;
                checks.due("link", x.link(0, d), links);
                checks.due("the home stays", x.home(0), 5);
            }
        }
        checks.due("the size counts once", x.usage(0), 40);
        HoldServer y = withOneFile();
        y.setQuota(3, 0);
        checks.due("a link heeds no quota", y.link(0, 3), 2);
    }

    private static void promise5Refuses() {
        HoldServer x = withOneFile();
        for (int file : NO_FILES) {
            checks.noSuchOne("link(" + file + ", 0)", x, () -> x.link(file, 0));
        }
        for (int directory : new int[] {-1, 4, Integer.MIN_VALUE, Integer.MAX_VALUE}) {
            checks.noSuchOne("link(0, " + directory + ")", x, () -> x.link(0, directory));
        }
        checks.notNow("a second link to its home", x, () -> x.link(0, 2));
        x.link(0, 3);
        checks.notNow("a second link to another", x, () -> x.link(0, 3));
        checks.due("the next link", x.link(0, 0), 3);
        x.unlink(0, 2);
        checks.due("a link again", x.link(0, 2), 3);
        x.unlink(0, 0);
        x.unlink(0, 2);
        x.unlink(0, 3);
        checks.notNow("a link of a file that is gone", x, () -> x.link(0, 1));
        checks.noSuchOne("of a file that is gone to no directory", x, () -> x.link(0, 4));
    }

    private static void promise6UnlinksInTheOrderOfLinks() {
        HoldServer x = withOneFile();
        x.link(0, 3);
        x.link(0, 0);
        x.link(0, 1);
        checks.due("unlink of a middle link", x.unlink(0, 0), 3);
        checks.due("the home stays", x.home(0), 2);
        checks.due("unlink of the home", x.unlink(0, 2), 2);
        checks.due("the next home", x.home(0), 3);
        checks.due("usage of the next home", x.usage(3), 40);
        checks.due("usage of the home before", x.usage(2), 0);
        x.link(0, 2);
        checks.due("a link made again is the last", x.unlink(0, 3), 2);
        checks.due("so the one before it is the home", x.home(0), 1);
        checks.due("unlink", x.unlink(0, 1), 1);
        checks.due("the last home", x.home(0), 2);
        checks.due("unlink of the last", x.unlink(0, 2), 0);
        checks.due("home", x.home(0), -1);
        checks.due("size", x.size(0), 0);
        checks.due("tier", x.tier(0), -1);
        checks.due("kept", x.kept(0), 0);
        checks.due("usage(0)", x.usage(0), 0);
        checks.due("bill(0)", x.bill(0), 0);
        checks.due("files()", x.files(), 1);
    }

    private static void promise6HeedsNoQuota() {
        HoldServer x = withOneFile();
        x.setQuota(3, 5);
        x.link(0, 3);
        checks.due("unlink into a directory without room", x.unlink(0, 2), 1);
        checks.due("its usage", x.usage(3), 40);
        checks.notNow("growth there", x, () -> x.write(0, 41));
        HoldServer y = new HoldServer();
        y.addDirectory(0, -1);
        y.make(0, 0, 1000);
        y.link(0, 1);
        y.pass(4);
        checks.due("coins", y.coins(0), 0);
        checks.due("unlink without coins", y.unlink(0, 0), 1);
    }

    private static void promise6Refuses() {
        HoldServer x = withOneFile();
        for (int file : NO_FILES) {
            checks.noSuchOne("unlink(" + file + ", 2)", x, () -> x.unlink(file, 2));
        }
        for (int directory : new int[] {-1, 4, Integer.MIN_VALUE, Integer.MAX_VALUE}) {
            checks.noSuchOne("unlink(0, " + directory + ")", x, () -> x.unlink(0, directory));
        }
        checks.notNow("unlink from where no link is", x, () -> x.unlink(0, 1));
        x.link(0, 1);
        x.unlink(0, 1);
        checks.notNow("unlink once more", x, () -> x.unlink(0, 1));
        x.unlink(0, 2);
        checks.notNow("unlink of a file that is gone", x, () -> x.unlink(0, 2));
    }

    private static void promise7WritesAndGrows() {
        HoldServer x = withOneFile();
        x.setQuota(1, 100);
        checks.due("write", x.write(0, 100), 0);
        checks.due("size", x.size(0), 100);
        checks.notNow("growth above the quota of a parent", x, () -> x.write(0, 101));
        checks.due("shrinking", x.write(0, 1), 0);
        checks.due("size", x.size(0), 1);
        checks.due("usage(1)", x.usage(1), 1);
        x.setQuota(1, -1);
        checks.due("the largest size", x.write(0, 1000), 0);
        x.hold(2, 0);
        checks.due("the same size, held", x.write(0, 1000), 1000);
        checks.due("another size, held", x.write(0, 7), 2000);
        checks.due("another size, held", x.write(0, 8), 2007);
        x.link(0, 3);
        x.unlink(0, 2);
        x.setQuota(1, 0);
        checks.due("room is asked of the home alone", x.write(0, 9), 2015);
        checks.due("usage of the home", x.usage(3), 9);
    }

    private static void promise7Refuses() {
        HoldServer x = withOneFile();
        for (int file : NO_FILES) {
            checks.noSuchOne("write(" + file + ", 1)", x, () -> x.write(file, 1));
            checks.noSuchOne("write(" + file + ", 0)", x, () -> x.write(file, 0));
        }
        for (int size : NO_SIZES) {
            checks.outOfRange("write(0, " + size + ")", x, () -> x.write(0, size));
        }
        x.pass(89);
        checks.due("a write in the tier 1", x.write(0, 40), 0);
        x.pass(90);
        checks.due("tier", x.tier(0), 2);
        checks.notNow("a write in the tier 2", x, () -> x.write(0, 1));
        checks.outOfRange("a wrong size in the tier 2", x, () -> x.write(0, 0));
        x.fund(0, 10);
        x.read(0);
        x.pass(1);
        checks.notNow("a write while it is brought back", x, () -> x.write(0, 1));
        x.pass(1);
        checks.due("a write when it is back", x.write(0, 1), 0);
        x.unlink(0, 2);
        checks.notNow("a write when it is gone", x, () -> x.write(0, 1));
        checks.outOfRange("a wrong size when it is gone", x, () -> x.write(0, 1001));
    }

    private static void promise7NeedsCoinsToGrowAlone() {
        HoldServer x = new HoldServer();
        x.make(1, 0, 900);
        x.pass(4);
        checks.due("coins", x.coins(1), 0);
        checks.notNow("growth without coins", x, () -> x.write(0, 901));
        checks.due("the same size without coins", x.write(0, 900), 0);
        checks.due("shrinking without coins", x.write(0, 899), 0);
        x.fund(1, 1);
        checks.due("growth with one coin", x.write(0, 1000), 0);
        checks.due("what writing costs", x.coins(1), 1);
    }

    private static void promises15And18And19() {
        HoldServer x = new HoldServer();
        x.addDirectory(0, -1);
        for (int f = 0; f < 3; f++) {
            checks.due("files()", x.files(), f);
            x.make(f, f % 2, 10 * f + 5);
        }
        checks.due("files()", x.files(), 3);
        x.unlink(1, 1);
        checks.due("files() counts those that are gone", x.files(), 3);
        checks.due("size of a file that is gone", x.size(1), 0);
        checks.due("home of a file that is gone", x.home(1), -1);
        checks.due("size(2)", x.size(2), 25);
        checks.due("home(2)", x.home(2), 0);
        for (int file : new int[] {-1, 3, 29, Integer.MIN_VALUE, Integer.MAX_VALUE}) {
            checks.noSuchOne("size(" + file + ")", x, () -> x.size(file));
            checks.noSuchOne("home(" + file + ")", x, () -> x.home(file));
        }
    }
}
