/** Promise 7: writing files anew. */
final class WriteTest {
    private static final Checks checks = new Checks();

    public static void main(String[] args) {
        answersWhatIsKept();
        takesTheFirstAndTheLastSize();
        changesTheUsageOfTheWholeWay();
        usesTheFile();
        costsNothing();
        refusesAFileThatIsNotThere();
        refusesASizeOutOfRange();
        refusesAFileThatIsGone();
        refusesInTheTier2();
        refusesWhileItIsBroughtBack();
        growsUpToTheQuotaOfItsHome();
        growsUpToTheQuotasAboveItsHome();
        heedsNoQuotaBesideTheWayOfItsHome();
        heedsTheQuotaOfANewHome();
        needsCoinsToGrow();
        needsNoRoomAndNoCoinsNotToGrow();
        keepsNothingWhenItIsRefused();
        namesTheFirstExceptionThatApplies();
        checks.end("WriteTest");
    }

    /** 0 over 1 and 3; 1 over 2; a file of 40 in 2. */
    private static Trial withOneFile() {
        Trial x = new Trial();
        x.addDirectory(0, -1);
        x.addDirectory(1, -1);
        x.addDirectory(0, -1);
        x.make(0, 2, 40);
        return x;
    }

    private static void answersWhatIsKept() {
        Trial x = withOneFile();
        checks.due("not held", x.write(0, 50), 0);
        x.hold(2, 0);
        checks.due("held, larger", x.write(0, 60), 50);
        checks.due("held, smaller", x.write(0, 7), 110);
        checks.due("held, the same size", x.write(0, 7), 117);
        x.release(2);
        checks.due("not held any more", x.write(0, 8), 0);
        x.make(0, 0, 5);
        x.hold(1, 1);
        checks.due("what is kept of itself alone", x.write(0, 9), 0);
    }

    private static void takesTheFirstAndTheLastSize() {
        Trial x = withOneFile();
        x.write(0, 1);
        checks.due("size", x.size(0), 1);
        x.write(0, 1000);
        checks.due("size", x.size(0), 1000);
        checks.due("bill", x.bill(0), 30);
    }

    private static void changesTheUsageOfTheWholeWay() {
        Trial x = withOneFile();
        x.link(0, 3);
        x.write(0, 100);
        for (int d = 0; d <= 2; d++) {
            checks.due("usage(" + d + ") of more", x.usage(d), 100);
            checks.due("usageByWalking(" + d + ") of more", x.usageByWalking(d), 100);
        }
        checks.due("usage of another link", x.usage(3), 0);
        x.write(0, 3);
        for (int d = 0; d <= 2; d++) {
            checks.due("usage(" + d + ") of less", x.usage(d), 3);
            checks.due("usageByWalking(" + d + ") of less", x.usageByWalking(d), 3);
        }
    }

    private static void usesTheFile() {
        Trial x = withOneFile();
        x.passTo(29);
        x.write(0, 40);
        x.passTo(58);
        checks.due("29 days behind a writing in the tier 0", x.tier(0), 0);
        x.passTo(59);
        checks.due("30 days behind it", x.tier(0), 1);
        x.passTo(118);
        checks.due("89 days behind it", x.tier(0), 1);
        checks.due("a writing in the tier 1", x.write(0, 40), 0);
        checks.due("the tier then", x.tier(0), 0);
        x.passTo(147);
        checks.due("29 days behind that", x.tier(0), 0);
        x.passTo(148);
        checks.due("30 days behind that", x.tier(0), 1);
    }

    private static void costsNothing() {
        Trial x = withOneFile();
        x.write(0, 1000);
        x.write(0, 1);
        checks.due("coins", x.coins(0), 100);
    }

    private static void refusesAFileThatIsNotThere() {
        Trial x = new Trial();
        for (int file : Checks.outside(0, -1)) {
            checks.noSuchOne("write(" + file + ", 1) of none", x, s -> s.write(file, 1));
        }
        x.fillFiles(30, 0);
        checks.due("write of the last one", x.write(29, 2), 0);
        for (int file : Checks.outside(0, 29)) {
            checks.noSuchOne("write(" + file + ", 1) of 30", x, s -> s.write(file, 1));
        }
    }

    private static void refusesASizeOutOfRange() {
        Trial x = withOneFile();
        x.hold(0, 0);
        for (int size : Checks.outside(1, 1000)) {
            checks.outOfRange("write(0, " + size + ")", x, s -> s.write(0, size));
        }
        checks.outOfRange("write(0, -1)", x, s -> s.write(0, -1));
    }

    private static void refusesAFileThatIsGone() {
        Trial x = withOneFile();
        x.hold(0, 0);
        x.unlink(0, 2);
        checks.notNow("held", x, s -> s.write(0, 40));
        checks.notNow("held, larger", x, s -> s.write(0, 41));
        x.release(0);
        checks.notNow("not held", x, s -> s.write(0, 1));
    }

    private static void refusesInTheTier2() {
        Trial x = withOneFile();
        x.fund(0, 1000);
        x.hold(0, 0);
        x.passTo(89);
        checks.due("on the last day of the tier 1", x.twin().write(0, 1000), 40);
        x.passTo(90);
        checks.notNow("a smaller size on the first day of the tier 2", x, s -> s.write(0, 1));
        checks.notNow("the same size", x, s -> s.write(0, 40));
        checks.notNow("a larger size", x, s -> s.write(0, 41));
        x.passTo(300);
        checks.notNow("long behind it", x, s -> s.write(0, 1));
    }

    private static void refusesWhileItIsBroughtBack() {
        Trial x = withOneFile();
        x.fund(0, 1000);
        x.passTo(90);
        x.read(0);
        checks.notNow("two days before it is back", x, s -> s.write(0, 1));
        x.pass(1);
        checks.notNow("a day before it is back", x, s -> s.write(0, 1));
        x.pass(1);
        checks.due("when it is back", x.write(0, 1), 0);
        checks.due("size", x.size(0), 1);
    }

    private static void growsUpToTheQuotaOfItsHome() {
        Trial x = withOneFile();
        x.setQuota(2, 100);
        checks.notNow("one above the quota", x, s -> s.write(0, 101));
        checks.notNow("much above the quota", x, s -> s.write(0, 1000));
        checks.due("just the quota", x.write(0, 100), 0);
        checks.due("size", x.size(0), 100);
        x.write(0, 60);
        x.make(1, 2, 40);
        checks.notNow("one above the quota, with another file", x, s -> s.write(0, 61));
        x.write(1, 39);
        checks.due("just the quota, with another file", x.write(0, 61), 0);
    }

    private static void growsUpToTheQuotasAboveItsHome() {
        Trial x = withOneFile();
        x.setQuota(1, 100);
        checks.notNow("one above the quota of its parent", x, s -> s.write(0, 101));
        checks.due("just that quota", x.write(0, 100), 0);
        x.setQuota(1, -1);
        x.setQuota(0, 200);
        x.setQuota(2, 300);
        checks.notNow("one above the quota of the root", x, s -> s.write(0, 201));
        checks.due("just that quota", x.write(0, 200), 0);
        x.setQuota(0, 199);
        checks.notNow("growth when the root is above its quota", x, s -> s.write(0, 201));
    }

    private static void heedsNoQuotaBesideTheWayOfItsHome() {
        Trial x = withOneFile();
        x.addDirectory(2, 0);
        x.link(0, 3);
        x.link(0, 4);
        x.setQuota(3, 0);
        checks.due("growth with links to full directories", x.write(0, 1000), 0);
        checks.due("usage of the home", x.usage(2), 1000);
    }

    private static void heedsTheQuotaOfANewHome() {
        Trial x = withOneFile();
        x.link(0, 3);
        x.setQuota(3, 40);
        checks.due("growth before", x.write(0, 39), 0);
        x.unlink(0, 2);
        x.setQuota(1, 0);
        checks.due("growth up to the quota of the new home", x.write(0, 40), 0);
        checks.notNow("growth above it", x, s -> s.write(0, 41));
        checks.due("usage of the new home", x.usage(3), 40);
        checks.due("usage of the home before", x.usage(2), 0);
    }

    private static void needsCoinsToGrow() {
        Trial x = withOneFile();
        x.make(1, 0, 40);
        x.empty(1);
        checks.notNow("growth by one without coins", x, s -> s.write(1, 41));
        checks.due("growth of another department's", x.write(0, 41), 0);
        x.fund(1, 1);
        checks.due("growth with one coin", x.write(1, 1000), 0);
        checks.due("it is left", x.coins(1), 1);
    }

    private static void needsNoRoomAndNoCoinsNotToGrow() {
        Trial x = withOneFile();
        x.hold(0, 0);
        x.empty(0);
        x.setQuota(2, 0);
        x.setQuota(1, 0);
        x.setQuota(0, 0);
        checks.due("the same size", x.write(0, 40), 40);
        checks.due("one less", x.write(0, 39), 80);
        checks.due("the least", x.write(0, 1), 119);
        checks.notNow("one more", x, s -> s.write(0, 2));
        checks.due("usage", x.usage(2), 1);
    }

    private static void keepsNothingWhenItIsRefused() {
        Trial x = withOneFile();
        x.hold(0, 0);
        x.setQuota(2, 40);
        checks.notNow("no room", x, s -> s.write(0, 41));
        checks.due("kept", x.kept(0), 0);
        checks.due("kept with the next writing", x.write(0, 40), 40);
    }

    private static void namesTheFirstExceptionThatApplies() {
        Trial x = withOneFile();
        checks.noSuchOne("no file, a size too small", x, s -> s.write(1, 0));
        checks.noSuchOne("no file, a size too large", x, s -> s.write(-1, 1001));
        x.setQuota(0, 0);
        checks.outOfRange("a size too large, no room", x, s -> s.write(0, 1001));
        x.setQuota(0, -1);
        x.empty(0);
        checks.outOfRange("a size too large, no coins", x, s -> s.write(0, 1001));
        x.passTo(90);
        checks.outOfRange("a size too small in the tier 2", x, s -> s.write(0, 0));
        x.unlink(0, 2);
        checks.outOfRange("a size too small when it is gone", x, s -> s.write(0, 0));
        checks.outOfRange("a size too large when it is gone", x, s -> s.write(0, 1001));
    }
}
