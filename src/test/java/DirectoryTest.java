/** Promises 1 to 3, 14, 16 and 17: the new object, directories, quotas that nest, usage. */
final class DirectoryTest {
    private static final Checks checks = new Checks();

    public static void main(String[] args) {
        promise1TheRootAloneNoFilesTheDay0();
        promise1TheRootHasNoQuotaAtFirst();
        promise1ObjectsShareNothing();
        promise2AnswersTheNextNumberUpTo11();
        promise2RefusesWhenThereAre12();
        promise2RefusesAParentThatIsNotThere();
        promise2RefusesAQuotaOutOfRange();
        promise2TakesTheFirstAndTheLastQuota();
        promise2NamesTheFirstExceptionThatApplies();
        promise3AnswersTheQuotaBefore();
        promise3RefusesADirectoryThatIsNotThere();
        promise3RefusesAQuotaOutOfRange();
        promise3NamesTheFirstExceptionThatApplies();
        promise3MayGoBelowTheUsage();
        promise3TheFirstAndTheLastQuotaBindGrowth();
        promise14CountsFrom1To12();
        promises16And17OfAnEmptyServer();
        promises16And17SumUpOverTheWays();
        promises16And17AFileWithLinksCountsOnce();
        promises16And17FollowTheHome();
        promises16And17AFileThatIsGoneDoesNotCount();
        promises16And17OnAWayOf12();
        promises16And17TheMostThatCanBeUsed();
        promises16And17RefuseADirectoryThatIsNotThere();
        checks.end("DirectoryTest");
    }

    // ---- promise 1

    private static void promise1TheRootAloneNoFilesTheDay0() {
        Trial x = new Trial();
        checks.due("day()", x.day(), 0);
        checks.due("directories()", x.directories(), 1);
        checks.due("files()", x.files(), 0);
        checks.due("a new object", Sight.of(x), "day 0; directory 0: 0 0; department 0: 100 0;"
            + " department 1: 100 0; department 2: 100 0; department 3: 100 0");
        checks.noSuchOne("usage of a second directory", x, s -> s.usage(1));
        checks.noSuchOne("size of a file", x, s -> s.size(0));
    }

    private static void promise1TheRootHasNoQuotaAtFirst() {
        Trial x = new Trial();
        x.fillFiles(29, 0);
        checks.due("a file of 1000 in the root", x.make(0, 0, 1000), 29);
        checks.due("the root's first quota", x.setQuota(0, 5), -1);
    }

    private static void promise1ObjectsShareNothing() {
        Trial x = new Trial();
        x.addDirectory(0, 7);
        x.setQuota(0, 9);
        x.make(0, 0, 3);
        x.hold(0, 0);
        x.fund(1, 1);
        x.pass(1);
        Trial y = new Trial();
        checks.due("another new object", Sight.of(y), "day 0; directory 0: 0 0; department 0: 100 0;"
            + " department 1: 100 0; department 2: 100 0; department 3: 100 0");
        checks.due("the first quota of another's root", y.setQuota(0, -1), -1);
    }

    // ---- promise 2

    private static void promise2AnswersTheNextNumberUpTo11() {
        Trial x = new Trial();
        for (int d = 1; d <= 11; d++) {
            checks.due("addDirectory", x.addDirectory(d - 1, -1), d);
        }
        checks.due("make in the last one", x.make(0, 11, 8), 0);
        checks.due("usage of the last one", x.usage(11), 8);
        checks.due("home in the last one", x.home(0), 11);
    }

    private static void promise2RefusesWhenThereAre12() {
        Trial x = new Trial();
        x.fillDirectories(11);
        checks.due("the 12th", x.addDirectory(0, 5), 11);
        checks.notNow("a 13th below the root", x, s -> s.addDirectory(0, -1));
        checks.notNow("a 13th below the last", x, s -> s.addDirectory(11, 0));
        checks.notNow("a 13th with the last quota", x, s -> s.addDirectory(11, 100000));
    }

    private static void promise2RefusesAParentThatIsNotThere() {
        Trial x = new Trial();
        for (int there = 1; there <= 12; there++) {
            for (int parent : Checks.outside(0, there - 1)) {
                checks.noSuchOne("addDirectory(" + parent + ", 0) of " + there, x, s -> s.addDirectory(parent, 0));
            }
            if (there < 12) {
                checks.due("below the last that is there", x.addDirectory(there - 1, 0), there);
            }
        }
    }

    private static void promise2RefusesAQuotaOutOfRange() {
        Trial x = new Trial();
        for (int quota : Checks.outside(-1, 100000)) {
            checks.outOfRange("addDirectory(0, " + quota + ")", x, s -> s.addDirectory(0, quota));
        }
        checks.due("the next number", x.addDirectory(0, 0), 1);
    }

    private static void promise2TakesTheFirstAndTheLastQuota() {
        Trial x = new Trial();
        int[] quotas = {-1, 0, 1, 99999, 100000};
        for (int quota : quotas) {
            x.addDirectory(0, quota);
        }
        for (int i = 0; i < quotas.length; i++) {
            checks.due("the quota that it was added with", x.setQuota(1 + i, -1), quotas[i]);
        }
        Trial y = new Trial();
        y.addDirectory(0, -1);
        y.addDirectory(0, 0);
        y.addDirectory(0, 1);
        checks.due("without a quota", y.make(0, 1, 1000), 0);
        checks.notNow("with the quota 0", y, s -> s.make(0, 2, 1));
        checks.notNow("above the quota 1", y, s -> s.make(0, 3, 2));
        checks.due("with the quota 1", y.make(0, 3, 1), 1);
    }

    private static void promise2NamesTheFirstExceptionThatApplies() {
        Trial x = new Trial();
        checks.noSuchOne("no parent, quota too small", x, s -> s.addDirectory(1, -2));
        checks.noSuchOne("no parent, quota too large", x, s -> s.addDirectory(-1, 100001));
        x.fillDirectories(12);
        checks.noSuchOne("no parent, quota too small, full", x, s -> s.addDirectory(12, -2));
        checks.noSuchOne("no parent, full", x, s -> s.addDirectory(12, 0));
        checks.outOfRange("quota too large, full", x, s -> s.addDirectory(11, 100001));
        checks.outOfRange("quota too small, full", x, s -> s.addDirectory(0, -2));
    }

    // ---- promise 3

    private static void promise3AnswersTheQuotaBefore() {
        Trial x = new Trial();
        x.addDirectory(0, 7);
        checks.due("setQuota(1, 100000)", x.setQuota(1, 100000), 7);
        checks.due("setQuota(1, 0)", x.setQuota(1, 0), 100000);
        checks.due("setQuota(1, -1)", x.setQuota(1, -1), 0);
        checks.changesNothing("setQuota(1, -1) again", x, -1, s -> s.setQuota(1, -1));
        checks.due("setQuota(0, 3)", x.setQuota(0, 3), -1);
        checks.changesNothing("setQuota(0, 3) again", x, 3, s -> s.setQuota(0, 3));
        checks.due("the other's quota is as it was", x.setQuota(1, 1), -1);
        x.fillDirectories(12);
        checks.due("of the last directory", x.setQuota(11, 6), -1);
        checks.due("of the last directory again", x.setQuota(11, -1), 6);
    }

    private static void promise3RefusesADirectoryThatIsNotThere() {
        Trial x = new Trial();
        for (int directory : Checks.outside(0, 0)) {
            checks.noSuchOne("setQuota(" + directory + ", 0)", x, s -> s.setQuota(directory, 0));
        }
        x.fillDirectories(12);
        for (int directory : Checks.outside(0, 11)) {
            checks.noSuchOne("setQuota(" + directory + ", 0) of 12", x, s -> s.setQuota(directory, 0));
        }
    }

    private static void promise3RefusesAQuotaOutOfRange() {
        Trial x = new Trial();
        x.setQuota(0, 9);
        for (int quota : Checks.outside(-1, 100000)) {
            checks.outOfRange("setQuota(0, " + quota + ")", x, s -> s.setQuota(0, quota));
        }
        checks.due("the quota after refusals", x.setQuota(0, -1), 9);
    }

    private static void promise3NamesTheFirstExceptionThatApplies() {
        Trial x = new Trial();
        checks.noSuchOne("no directory, quota too small", x, s -> s.setQuota(1, -2));
        checks.noSuchOne("no directory, quota too large", x, s -> s.setQuota(-1, 100001));
    }

    private static void promise3MayGoBelowTheUsage() {
        Trial x = new Trial();
        x.addDirectory(0, 100);
        x.make(0, 1, 100);
        checks.due("a quota below the usage", x.setQuota(1, 10), 100);
        checks.due("usage(1)", x.usage(1), 100);
        checks.due("shrinking above the quota", x.write(0, 90), 0);
        checks.due("the same size above the quota", x.write(0, 90), 0);
        checks.notNow("growth above the quota", x, s -> s.write(0, 91));
        checks.due("a quota that is just reached", x.setQuota(1, 91), 10);
        checks.due("growth up to the quota", x.write(0, 91), 0);
        checks.notNow("growth by one more", x, s -> s.write(0, 92));
        checks.due("no quota any more", x.setQuota(1, -1), 91);
        checks.due("growth without a quota", x.write(0, 1000), 0);
        checks.due("the quota 0 for a directory in use", x.setQuota(1, 0), -1);
        checks.due("usage(1)", x.usage(1), 1000);
    }

    private static void promise3TheFirstAndTheLastQuotaBindGrowth() {
        Trial x = new Trial();
        x.setQuota(0, 0);
        checks.notNow("make with the quota 0", x, s -> s.make(0, 0, 1));
        x.setQuota(0, 100000);
        x.fillFiles(29, 0);
        checks.due("make with the quota 100000", x.make(0, 0, 1000), 29);
    }

    // ---- promise 14

    private static void promise14CountsFrom1To12() {
        Trial x = new Trial();
        for (int there = 1; there < 12; there++) {
            checks.changesNothing("directories()", x, there, s -> s.directories());
            x.addDirectory(there - 1, 0);
        }
        checks.changesNothing("directories()", x, 12, s -> s.directories());
    }

    // ---- promises 16 and 17

    private static void usages(Trial x, int... due) {
        for (int d = 0; d < due.length; d++) {
            checks.due("usage(" + d + ")", x.usage(d), due[d]);
            checks.due("usageByWalking(" + d + ")", x.usageByWalking(d), due[d]);
        }
    }

    /** 0 over 1 and 4; 1 over 2 and 3; 2 over 5. */
    private static Trial tree() {
        Trial x = new Trial();
        x.addDirectory(0, -1);
        x.addDirectory(1, -1);
        x.addDirectory(1, -1);
        x.addDirectory(0, -1);
        x.addDirectory(2, -1);
        return x;
    }

    private static void promises16And17OfAnEmptyServer() {
        usages(new Trial(), 0);
        usages(tree(), 0, 0, 0, 0, 0, 0);
    }

    private static void promises16And17SumUpOverTheWays() {
        Trial x = tree();
        x.make(0, 5, 10);
        usages(x, 10, 10, 10, 0, 0, 10);
        x.make(1, 3, 200);
        x.make(2, 0, 1000);
        usages(x, 1210, 210, 10, 200, 0, 10);
        x.make(3, 4, 1);
        usages(x, 1211, 210, 10, 200, 1, 10);
        x.write(0, 30);
        usages(x, 1231, 230, 30, 200, 1, 30);
        x.write(0, 1);
        usages(x, 1202, 201, 1, 200, 1, 1);
        x.pass(100);
        usages(x, 1202, 201, 1, 200, 1, 1);
        checks.changesNothing("usage(1)", x, 201, s -> s.usage(1));
        checks.changesNothing("usageByWalking(1)", x, 201, s -> s.usageByWalking(1));
    }

    private static void promises16And17AFileWithLinksCountsOnce() {
        Trial x = tree();
        x.make(0, 5, 10);
        x.link(0, 0);
        x.link(0, 1);
        x.link(0, 2);
        x.link(0, 4);
        usages(x, 10, 10, 10, 0, 0, 10);
        x.hold(0, 0);
        x.write(0, 20);
        usages(x, 20, 20, 20, 0, 0, 20);
    }

    private static void promises16And17FollowTheHome() {
        Trial x = tree();
        x.make(0, 5, 10);
        x.make(0, 4, 3);
        x.link(0, 3);
        x.link(0, 4);
        x.link(0, 0);
        x.unlink(0, 5);
        usages(x, 13, 10, 0, 10, 3, 0);
        x.unlink(0, 4);
        usages(x, 13, 10, 0, 10, 3, 0);
        x.link(0, 4);
        x.unlink(0, 3);
        usages(x, 13, 0, 0, 0, 3, 0);
        x.unlink(0, 0);
        usages(x, 13, 0, 0, 0, 13, 0);
    }

    private static void promises16And17AFileThatIsGoneDoesNotCount() {
        Trial x = tree();
        x.make(0, 5, 10);
        x.make(0, 5, 4);
        x.hold(0, 0);
        x.unlink(0, 5);
        usages(x, 4, 4, 4, 0, 0, 4);
        x.unlink(1, 5);
        usages(x, 0, 0, 0, 0, 0, 0);
        x.release(0);
        usages(x, 0, 0, 0, 0, 0, 0);
    }

    private static void promises16And17OnAWayOf12() {
        Trial x = new Trial();
        for (int d = 1; d < 12; d++) {
            x.addDirectory(d - 1, -1);
        }
        x.make(0, 11, 5);
        x.make(0, 6, 70);
        usages(x, 75, 75, 75, 75, 75, 75, 75, 5, 5, 5, 5, 5);
        x.setQuota(0, 75);
        checks.notNow("growth above the quota at the end of the way", x, s -> s.write(0, 6));
        checks.notNow("a file above the quota at the end of the way", x, s -> s.make(0, 11, 1));
        x.setQuota(0, 76);
        checks.due("growth up to that quota", x.write(0, 6), 0);
        usages(x, 76, 76, 76, 76, 76, 76, 76, 6, 6, 6, 6, 6);
    }

    private static void promises16And17TheMostThatCanBeUsed() {
        Trial x = new Trial();
        x.addDirectory(0, 30000);
        for (int f = 0; f < 30; f++) {
            x.make(f % 4, 1, 1000);
        }
        usages(x, 30000, 30000);
    }

    private static void promises16And17RefuseADirectoryThatIsNotThere() {
        Trial x = tree();
        for (int directory : Checks.outside(0, 5)) {
            checks.noSuchOne("usage(" + directory + ") of 6", x, s -> s.usage(directory));
            checks.noSuchOne("usageByWalking(" + directory + ") of 6", x, s -> s.usageByWalking(directory));
        }
        x.fillDirectories(12);
        usages(x, 0, 0, 0, 0, 0, 0, 0, 0, 0, 0, 0, 0);
        for (int directory : Checks.outside(0, 11)) {
            checks.noSuchOne("usage(" + directory + ") of 12", x, s -> s.usage(directory));
            checks.noSuchOne("usageByWalking(" + directory + ") of 12", x, s -> s.usageByWalking(directory));
        }
    }
}
