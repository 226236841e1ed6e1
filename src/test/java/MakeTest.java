/** Promises 4, 15, 18 and 19: making files, how many were made, their sizes and homes. */
final class MakeTest {
    private static final Checks checks = new Checks();

    public static void main(String[] args) {
        promise4AnswersTheNextNumberUpTo29();
        promise4AFileIsOfTheDepartmentAndDirectoryThatMadeIt();
        promise4RefusesADepartmentThatIsNotThere();
        promise4RefusesADirectoryThatIsNotThere();
        promise4RefusesASizeOutOfRange();
        promise4TakesTheFirstAndTheLastSize();
        promise4RefusesWhen30WereMade();
        promise4RefusesWhen30WereMadeAndAreGone();
        promise4GrowsUpToTheQuotaOfItsDirectory();
        promise4GrowsUpToTheQuotasAboveIt();
        promise4HeedsNoQuotaBesideItsWay();
        promise4RefusesInADirectoryThatIsAboveItsQuota();
        promise4RefusesWithAnEmptyBudget();
        promise4CostsNothing();
        promise4UsesTheFile();
        promise4NamesTheFirstExceptionThatApplies();
        promise15CountsFrom0To30();
        promise18TellsTheSize();
        promise19TellsTheHome();
        promises18And19RefuseAFileThatIsNotThere();
        checks.end("MakeTest");
    }

    // ---- promise 4

    private static void promise4AnswersTheNextNumberUpTo29() {
        Trial x = new Trial();
        x.addDirectory(0, -1);
        for (int f = 0; f < 30; f++) {
            checks.due("make", x.make(f % 4, f % 2, 1 + f), f);
            checks.due("its size", x.size(f), 1 + f);
            checks.due("its home", x.home(f), f % 2);
            checks.due("its kept", x.kept(f), 0);
            checks.due("its holders", x.holders(f), 0);
            checks.due("its tier", x.tier(f), 0);
        }
        checks.due("hold of the last one", x.hold(0, 29), 1);
    }

    private static void promise4AFileIsOfTheDepartmentAndDirectoryThatMadeIt() {
        Trial x = new Trial();
        x.fillDirectories(12);
        x.make(0, 11, 100);
        x.make(3, 0, 200);
        checks.due("bill(0)", x.bill(0), 3);
        checks.due("bill(1)", x.bill(1), 0);
        checks.due("bill(2)", x.bill(2), 0);
        checks.due("bill(3)", x.bill(3), 6);
        checks.due("the one link", x.unlink(0, 11), 0);
        checks.due("the other's one link", x.unlink(1, 0), 0);
    }

    private static void promise4RefusesADepartmentThatIsNotThere() {
        Trial x = new Trial();
        for (int department : Checks.outside(0, 3)) {
            checks.noSuchOne("make(" + department + ", 0, 1)", x, s -> s.make(department, 0, 1));
        }
        checks.due("by the first", x.make(0, 0, 1), 0);
        checks.due("by the last", x.make(3, 0, 1), 1);
    }

    private static void promise4RefusesADirectoryThatIsNotThere() {
        Trial x = new Trial();
        for (int directory : Checks.outside(0, 0)) {
            checks.noSuchOne("make(0, " + directory + ", 1)", x, s -> s.make(0, directory, 1));
        }
        x.fillDirectories(12);
        for (int directory : Checks.outside(0, 11)) {
            checks.noSuchOne("make(0, " + directory + ", 1) of 12", x, s -> s.make(0, directory, 1));
        }
    }

    private static void promise4RefusesASizeOutOfRange() {
        Trial x = new Trial();
        for (int size : Checks.outside(1, 1000)) {
            checks.outOfRange("make(0, 0, " + size + ")", x, s -> s.make(0, 0, size));
        }
        checks.outOfRange("make(0, 0, -1)", x, s -> s.make(0, 0, -1));
        checks.due("the next number", x.make(0, 0, 1), 0);
    }

    private static void promise4TakesTheFirstAndTheLastSize() {
        Trial x = new Trial();
        checks.due("make(0, 0, 1)", x.make(0, 0, 1), 0);
        checks.due("make(0, 0, 1000)", x.make(0, 0, 1000), 1);
        checks.due("size(0)", x.size(0), 1);
        checks.due("size(1)", x.size(1), 1000);
    }

    private static void promise4RefusesWhen30WereMade() {
        Trial x = new Trial();
        x.fillFiles(29, 0);
        checks.due("the 30th", x.make(1, 0, 1), 29);
        checks.notNow("a 31st by the same", x, s -> s.make(1, 0, 1));
        checks.notNow("a 31st by another", x, s -> s.make(2, 0, 1000));
    }

    private static void promise4RefusesWhen30WereMadeAndAreGone() {
        Trial x = new Trial();
        x.fillFiles(30, 0);
        x.unlink(0, 0);
        checks.notNow("a 31st when the first is gone", x, s -> s.make(0, 0, 1));
        for (int f = 1; f < 30; f++) {
            x.unlink(f, 0);
        }
        checks.notNow("a 31st when all are gone", x, s -> s.make(0, 0, 1));
        checks.due("files()", x.files(), 30);
    }

    private static void promise4GrowsUpToTheQuotaOfItsDirectory() {
        Trial x = new Trial();
        x.addDirectory(0, 500);
        checks.notNow("one above the quota", x, s -> s.make(0, 1, 501));
        checks.due("just the quota", x.make(0, 1, 500), 0);
        checks.notNow("one more", x, s -> s.make(0, 1, 1));
        x.unlink(0, 1);
        checks.due("just the quota once more, when that is gone", x.make(0, 1, 500), 1);
    }

    private static void promise4GrowsUpToTheQuotasAboveIt() {
        Trial x = new Trial();
        x.addDirectory(0, 500);
        x.addDirectory(1, -1);
        x.addDirectory(2, 300);
        x.make(0, 3, 300);
        checks.notNow("above its own quota", x, s -> s.make(0, 3, 1));
        checks.notNow("above the quota of its parent", x, s -> s.make(1, 2, 201));
        x.make(1, 2, 199);
        checks.notNow("above the quota of its parent by one", x, s -> s.make(1, 2, 2));
        checks.due("just up to it", x.make(1, 2, 1), 2);
        x.unlink(0, 3);
        x.setQuota(3, -1);
        checks.notNow("above the quota of its parent's parent", x, s -> s.make(1, 3, 301));
        checks.due("where there is room on the whole way", x.make(1, 3, 300), 3);
        x.setQuota(1, -1);
        x.setQuota(0, 505);
        checks.notNow("above the root's quota", x, s -> s.make(1, 3, 6));
        checks.notNow("above the root's quota, in the root", x, s -> s.make(1, 0, 6));
        checks.due("just up to the root's quota", x.make(1, 3, 5), 4);
    }

    private static void promise4HeedsNoQuotaBesideItsWay() {
        Trial x = new Trial();
        x.addDirectory(0, -1);
        x.addDirectory(1, 0);
        x.addDirectory(0, 0);
        checks.due("with full directories below and beside", x.make(0, 1, 1000), 0);
        checks.due("with full directories below", x.make(0, 0, 1000), 1);
    }

    private static void promise4RefusesInADirectoryThatIsAboveItsQuota() {
        Trial x = new Trial();
        x.addDirectory(0, -1);
        x.addDirectory(1, -1);
        x.addDirectory(2, -1);
        x.make(0, 2, 10);
        x.setQuota(2, 9);
        checks.notNow("in it", x, s -> s.make(0, 2, 1));
        checks.notNow("below it", x, s -> s.make(0, 3, 1));
        checks.due("above it", x.make(0, 1, 1), 1);
        x.setQuota(2, 10);
        checks.notNow("in it, when it is just full", x, s -> s.make(0, 2, 1));
        x.setQuota(2, 11);
        checks.due("in it, with room for one", x.make(0, 2, 1), 2);
    }

    private static void promise4RefusesWithAnEmptyBudget() {
        Trial x = new Trial();
        x.make(2, 0, 1000);
        x.pass(3);
        checks.due("coins before the last day", x.coins(2), 10);
        checks.due("make with few coins", x.make(2, 0, 1), 1);
        x.pass(1);
        checks.due("coins", x.coins(2), 0);
        checks.notNow("make without coins", x, s -> s.make(2, 0, 1));
        checks.due("make by another department", x.make(3, 0, 1), 2);
        x.fund(3, 10000);
        checks.notNow("make without coins, when another is rich", x, s -> s.make(2, 0, 1));
        x.fund(2, 1);
        checks.due("make with one coin", x.make(2, 0, 1000), 3);
    }

    private static void promise4CostsNothing() {
        Trial x = new Trial();
        x.make(1, 0, 1000);
        for (int department = 0; department < 4; department++) {
            checks.due("coins(" + department + ")", x.coins(department), 100);
        }
    }

    private static void promise4UsesTheFile() {
        Trial x = new Trial();
        x.passTo(50);
        x.make(0, 0, 1);
        checks.due("tier", x.tier(0), 0);
        x.passTo(79);
        checks.due("29 days behind the making", x.tier(0), 0);
        x.passTo(80);
        checks.due("30 days behind the making", x.tier(0), 1);
    }

    private static void promise4NamesTheFirstExceptionThatApplies() {
        Trial x = new Trial();
        x.setQuota(0, 0);
        checks.noSuchOne("no department, no directory, a wrong size", x, s -> s.make(4, 1, 0));
        checks.noSuchOne("no department, a wrong size, no room", x, s -> s.make(4, 0, 0));
        checks.noSuchOne("no directory, a wrong size, no room", x, s -> s.make(0, 1, 1001));
        checks.noSuchOne("no department, no room", x, s -> s.make(-1, 0, 1));
        checks.noSuchOne("no directory, no room", x, s -> s.make(0, -1, 1));
        checks.outOfRange("a size too large, no room", x, s -> s.make(0, 0, 1001));
        checks.outOfRange("a size too small, no room", x, s -> s.make(0, 0, 0));
        checks.notNow("no room", x, s -> s.make(0, 0, 1));

        Trial poor = new Trial();
        poor.empty(1);
        checks.noSuchOne("no directory, no coins", poor, s -> s.make(1, 1, 1));
        checks.outOfRange("a wrong size, no coins", poor, s -> s.make(1, 0, 1001));
        checks.notNow("no coins", poor, s -> s.make(1, 0, 1000));

        Trial full = new Trial();
        full.fillFiles(30, 0);
        checks.noSuchOne("no department, 30 made", full, s -> s.make(4, 0, 1));
        checks.noSuchOne("no directory, 30 made", full, s -> s.make(0, 1, 1));
        checks.outOfRange("a wrong size, 30 made", full, s -> s.make(0, 0, 0));
        full.setQuota(0, 0);
        checks.notNow("30 made, no room", full, s -> s.make(0, 0, 1));
    }

    // ---- promise 15

    private static void promise15CountsFrom0To30() {
        Trial x = new Trial();
        for (int f = 0; f < 30; f++) {
            checks.due("files()", x.files(), f);
            x.make(f % 4, 0, 1);
        }
        checks.changesNothing("files()", x, 30, s -> s.files());
        x.unlink(7, 0);
        checks.due("files() counts those that are gone", x.files(), 30);
    }

    // ---- promises 18 and 19

    private static void promise18TellsTheSize() {
        Trial x = new Trial();
        x.addDirectory(0, -1);
        x.make(0, 0, 25);
        x.make(1, 1, 1000);
        checks.changesNothing("size(0)", x, 25, s -> s.size(0));
        x.write(0, 1);
        checks.due("written", x.size(0), 1);
        checks.due("the other's", x.size(1), 1000);
        x.link(1, 0);
        x.unlink(1, 1);
        checks.due("with another home", x.size(1), 1000);
        x.pass(100);
        checks.due("in the tier 2", x.size(1), 1000);
        x.unlink(1, 0);
        checks.due("gone", x.size(1), 0);
        x.hold(0, 0);
        x.unlink(0, 0);
        checks.changesNothing("gone and held", x, 0, s -> s.size(0));
    }

    private static void promise19TellsTheHome() {
        Trial x = new Trial();
        x.fillDirectories(12);
        x.make(0, 0, 1);
        x.make(1, 11, 1);
        checks.changesNothing("home(0)", x, 0, s -> s.home(0));
        checks.changesNothing("home(1)", x, 11, s -> s.home(1));
        x.unlink(0, 0);
        checks.due("gone", x.home(0), -1);
        x.hold(0, 1);
        x.unlink(1, 11);
        checks.changesNothing("gone and held", x, -1, s -> s.home(1));
    }

    private static void promises18And19RefuseAFileThatIsNotThere() {
        Trial x = new Trial();
        for (int file : Checks.outside(0, -1)) {
            checks.noSuchOne("size(" + file + ") of none", x, s -> s.size(file));
            checks.noSuchOne("home(" + file + ") of none", x, s -> s.home(file));
        }
        x.fillFiles(30, 0);
        checks.due("size of the last one", x.size(29), 1);
        checks.due("home of the last one", x.home(29), 0);
        for (int file : Checks.outside(0, 29)) {
            checks.noSuchOne("size(" + file + ") of 30", x, s -> s.size(file));
            checks.noSuchOne("home(" + file + ") of 30", x, s -> s.home(file));
        }
    }
}
