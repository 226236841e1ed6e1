/** Promises 1 to 3, 14, 16 and 17: the new object, directories, quotas that nest, usage. */
final class DirectoryTest {
    private static final Checks checks = new Checks();

    public static void main(String[] args) {
        promise1ANewObject();
        promise2AddsDirectories();
        promise2RefusesWrongDirectories();
        promise2NamesTheFirstExceptionThatApplies();
        promise3SetsAQuota();
        promise3RefusesWrongQuotas();
        promise3ASetQuotaBindsGrowthAlone();
        promise14CountsDirectories();
        promises16And17UsageReachesTheRoot();
        promises16And17RefuseUnknownDirectories();
        checks.end("DirectoryTest");
    }

    private static void promise1ANewObject() {
        HoldServer x = new HoldServer();
        checks.due("a new object", Sight.of(x), "day 0; directory 0: 0 0; department 0: 100 0;"
            + " department 1: 100 0; department 2: 100 0; department 3: 100 0");
        checks.due("directories()", x.directories(), 1);
        checks.due("files()", x.files(), 0);
        checks.due("the root's first quota", x.setQuota(0, 5), -1);
        HoldServer other = new HoldServer();
        checks.due("the first quota of another's root", other.setQuota(0, 5), -1);
    }

    private static void promise2AddsDirectories() {
        HoldServer x = new HoldServer();
        for (int d = 1; d < 12; d++) {
            checks.due("addDirectory", x.addDirectory(d - 1, d % 2 == 0 ? -1 : 100000), d);
        }
        checks.notNow("a 13th directory", x, () -> x.addDirectory(0, 1));
        checks.due("the quota that it was added with", x.setQuota(1, -1), 100000);
        checks.due("no quota that it was added with", x.setQuota(2, -1), -1);
        HoldServer y = new HoldServer();
        checks.due("addDirectory(0, 0)", y.addDirectory(0, 0), 1);
        checks.notNow("make in a directory with the quota 0", y, () -> y.make(0, 1, 1));
        checks.due("make beside it", y.make(0, 0, 1), 0);
    }

    private static void promise2RefusesWrongDirectories() {
        HoldServer x = new HoldServer();
        for (int parent : new int[] {-1, 1, 12, Integer.MIN_VALUE, Integer.MAX_VALUE}) {
            checks.noSuchOne("addDirectory(" + parent + ", 0)", x, () -> x.addDirectory(parent, 0));
        }
        for (int quota : new int[] {-2, 100001, Integer.MIN_VALUE, Integer.MAX_VALUE}) {
            checks.outOfRange("addDirectory(0, " + quota + ")", x, () -> x.addDirectory(0, quota));
        }
        checks.due("the next number", x.addDirectory(0, 0), 1);
    }

    private static void promise2NamesTheFirstExceptionThatApplies() {
        HoldServer x = new HoldServer();
        checks.noSuchOne("parent and quota wrong", x, () -> x.addDirectory(1, -2));
        for (int d = 1; d < 12; d++) {
            x.addDirectory(0, -1);
        }
        checks.noSuchOne("parent wrong, and full", x, () -> x.addDirectory(12, 0));
        checks.outOfRange("quota wrong, and full", x, () -> x.addDirectory(11, 100001));
        checks.notNow("full", x, () -> x.addDirectory(11, 100000));
    }

    private static void promise3SetsAQuota() {
        HoldServer x = new HoldServer();
        x.addDirectory(0, 7);
        checks.due("setQuota(1, 100000)", x.setQuota(1, 100000), 7);
        checks.due("setQuota(1, 0)", x.setQuota(1, 0), 100000);
        checks.due("setQuota(1, -1)", x.setQuota(1, -1), 0);
        checks.due("setQuota(1, -1) again", x.setQuota(1, -1), -1);
        checks.due("setQuota(0, 3)", x.setQuota(0, 3), -1);
        checks.due("setQuota(0, 3) again", x.setQuota(0, 3), 3);
    }

    private static void promise3RefusesWrongQuotas() {
        HoldServer x = new HoldServer();
        x.setQuota(0, 9);
        for (int directory : new int[] {-1, 1, Integer.MIN_VALUE, Integer.MAX_VALUE}) {
            checks.noSuchOne("setQuota(" + directory + ", 0)", x, () -> x.setQuota(directory, 0));
            checks.noSuchOne("setQuota(" + directory + ", -2)", x, () -> x.setQuota(directory, -2));
        }
        for (int quota : new int[] {-2, 100001, Integer.MIN_VALUE, Integer.MAX_VALUE}) {
            checks.outOfRange("setQuota(0, " + quota + ")", x, () -> x.setQuota(0, quota));
        }
        checks.due("the quota after refusals", x.setQuota(0, -1), 9);
    }

    private static void promise3ASetQuotaBindsGrowthAlone() {
        HoldServer x = new HoldServer();
        x.addDirectory(0, 100);
        x.make(0, 1, 100);
        checks.due("a quota below the usage", x.setQuota(1, 10), 100);
        checks.due("usage(1)", x.usage(1), 100);
        checks.due("shrinking above the quota", x.write(0, 90), 0);
        checks.due("the same size above the quota", x.write(0, 90), 0);
        checks.notNow("growth above the quota", x, () -> x.write(0, 91));
        checks.due("a quota that is just reached", x.setQuota(1, 91), 10);
        checks.due("growth up to the quota", x.write(0, 91), 0);
        checks.notNow("growth by one more", x, () -> x.write(0, 92));
    }

    private static void promise14CountsDirectories() {
        HoldServer x = new HoldServer();
        for (int d = 1; d < 12; d++) {
            checks.due("directories()", x.directories(), d);
            x.addDirectory(0, -1);
        }
        checks.due("directories()", x.directories(), 12);
    }

    private static void usages(HoldServer x, int... due) {
        for (int d = 0; d < due.length; d++) {
            checks.due("usage(" + d + ")", x.usage(d), due[d]);
            checks.due("usageByWalking(" + d + ")", x.usageByWalking(d), due[d]);
        }
    }

    /** 0 over 1 and 4; 1 over 2 and 3; 2 over 5. */
    private static void promises16And17UsageReachesTheRoot() {
        HoldServer x = new HoldServer();
        x.addDirectory(0, -1);
        x.addDirectory(1, -1);
        x.addDirectory(1, -1);
        x.addDirectory(0, -1);
        x.addDirectory(2, -1);
        usages(x, 0, 0, 0, 0, 0, 0);
        x.make(0, 5, 10);
        usages(x, 10, 10, 10, 0, 0, 10);
        x.make(1, 3, 200);
        x.make(2, 0, 1000);
        usages(x, 1210, 210, 10, 200, 0, 10);
        x.link(0, 4);
        x.link(0, 1);
        usages(x, 1210, 210, 10, 200, 0, 10);
        x.write(0, 30);
        usages(x, 1230, 230, 30, 200, 0, 30);
        x.unlink(0, 5);
        usages(x, 1230, 200, 0, 200, 30, 0);
        x.write(0, 3);
        usages(x, 1203, 200, 0, 200, 3, 0);
        x.hold(0, 0);
        x.unlink(0, 4);
        x.unlink(0, 1);
        usages(x, 1200, 200, 0, 200, 0, 0);
        x.pass(100);
        usages(x, 1200, 200, 0, 200, 0, 0);
    }

    private static void promises16And17RefuseUnknownDirectories() {
        HoldServer x = new HoldServer();
        x.addDirectory(0, -1);
        for (int directory : new int[] {-1, 2, 12, Integer.MIN_VALUE, Integer.MAX_VALUE}) {
            checks.noSuchOne("usage(" + directory + ")", x, () -> x.usage(directory));
            checks.noSuchOne("usageByWalking(" + directory + ")", x, () -> x.usageByWalking(directory));
        }
    }
}
