/** Promises 9, 10, 20 and 21: holds by matters, and what is kept under them. */
final class HoldTest {
    private static final Checks checks = new Checks();

    public static void main(String[] args) {
        promise9AnswersHowManyMattersHoldIt();
        promise9TheSameMatterAgainChangesNothing();
        promise9AMatterHoldsManyFiles();
        promise9OfAFileInEachTier();
        promise9NeedsNoRoomAndNoCoins();
        promise9RefusesAMatterThatIsNotThere();
        promise9RefusesAFileThatIsNotThere();
        promise9RefusesAFileThatIsGone();
        promise9NamesTheFirstExceptionThatApplies();
        promise10AnswersWhatIsNotKeptAnyMore();
        promise10OfAMatterThatHoldsNothing();
        promise10LetsOtherMattersHold();
        promise10OfFilesThatAreGone();
        promise10OfAllFilesOfAllDepartments();
        promise10RefusesAMatterThatIsNotThere();
        promise20KeepsEachSizeBeforeAWriting();
        promise20KeepsASizeOnceForSeveralMatters();
        promise20KeepsTheLastSizeWhenItIsGone();
        promise20KeepsNothingWithoutAHold();
        promise20KeepsNothingByRefusedCalls();
        promise20IsNoUsage();
        promise20TheMostThatCanBeKept();
        promise21ShowsHoldersAsBits();
        promises20And21RefuseAFileThatIsNotThere();
        checks.end("HoldTest");
    }

    private static Trial withOneFile(int size) {
        Trial x = new Trial();
        x.make(0, 0, size);
        return x;
    }

    // ---- promise 9

    private static void promise9AnswersHowManyMattersHoldIt() {
        Trial x = withOneFile(1);
        for (int matter = 0; matter < 5; matter++) {
            checks.due("hold(" + matter + ", 0)", x.hold(matter, 0), matter + 1);
        }
        x.release(2);
        checks.due("hold by one that has released it", x.hold(2, 0), 5);
        Trial y = withOneFile(1);
        checks.due("the last matter first", y.hold(4, 0), 1);
        checks.due("then the first", y.hold(0, 0), 2);
    }

    private static void promise9TheSameMatterAgainChangesNothing() {
        Trial x = withOneFile(10);
        x.hold(3, 0);
        x.write(0, 20);
        checks.changesNothing("hold(3, 0) again", x, 1, s -> s.hold(3, 0));
        x.hold(1, 0);
        checks.changesNothing("hold(3, 0) again, of two", x, 2, s -> s.hold(3, 0));
        x.hold(3, 0);
        x.release(1);
        checks.due("one release is enough", x.release(3), 10);
        checks.due("holders", x.holders(0), 0);
    }

    private static void promise9AMatterHoldsManyFiles() {
        Trial x = new Trial();
        x.fillFiles(30, 0);
        for (int f = 0; f < 30; f++) {
            checks.due("hold(0, " + f + ")", x.hold(0, f), 1);
        }
        for (int f = 0; f < 30; f++) {
            checks.due("holders(" + f + ")", x.holders(f), 1);
        }
    }

    private static void promise9OfAFileInEachTier() {
        Trial x = withOneFile(1);
        x.fund(0, 1000);
        x.passTo(30);
        checks.due("in the tier 1", x.hold(0, 0), 1);
        checks.due("it is no use", x.tier(0), 1);
        x.passTo(90);
        checks.due("in the tier 2", x.hold(1, 0), 2);
        checks.due("it is no use", x.tier(0), 2);
        x.read(0);
        checks.due("while it is brought back", x.hold(2, 0), 3);
        checks.changesNothing("it comes back as before", x, 2, s -> s.read(0));
    }

    private static void promise9NeedsNoRoomAndNoCoins() {
        Trial x = withOneFile(1);
        x.empty(0);
        x.setQuota(0, 0);
        checks.due("hold", x.hold(0, 0), 1);
        checks.due("a writing is kept", x.write(0, 1), 1);
        checks.due("coins", x.coins(0), 0);
        Trial y = withOneFile(1);
        y.hold(0, 0);
        checks.due("what a hold costs", y.coins(0), 100);
    }

    private static void promise9RefusesAMatterThatIsNotThere() {
        Trial x = withOneFile(1);
        for (int matter : Checks.outside(0, 4)) {
            checks.noSuchOne("hold(" + matter + ", 0)", x, s -> s.hold(matter, 0));
        }
        // a shift by these would be a shift by 31, 0 and 4
        for (int matter : new int[] {31, 32, 36}) {
            checks.noSuchOne("hold(" + matter + ", 0)", x, s -> s.hold(matter, 0));
        }
    }

    private static void promise9RefusesAFileThatIsNotThere() {
        Trial x = new Trial();
        for (int file : Checks.outside(0, -1)) {
            checks.noSuchOne("hold(0, " + file + ") of none", x, s -> s.hold(0, file));
        }
        x.fillFiles(30, 0);
        checks.due("hold of the last one", x.hold(0, 29), 1);
        for (int file : Checks.outside(0, 29)) {
            checks.noSuchOne("hold(0, " + file + ") of 30", x, s -> s.hold(0, file));
        }
    }

    private static void promise9RefusesAFileThatIsGone() {
        Trial x = withOneFile(1);
        x.make(0, 0, 1);
        x.hold(0, 0);
        x.unlink(0, 0);
        x.unlink(1, 0);
        checks.notNow("by a second matter", x, s -> s.hold(1, 0));
        checks.notNow("by the matter that holds it", x, s -> s.hold(0, 0));
        checks.notNow("when none holds it", x, s -> s.hold(0, 1));
        x.release(0);
        checks.notNow("when it is released", x, s -> s.hold(0, 0));
    }

    private static void promise9NamesTheFirstExceptionThatApplies() {
        Trial x = withOneFile(1);
        checks.noSuchOne("no matter, no file", x, s -> s.hold(5, 1));
        x.unlink(0, 0);
        checks.noSuchOne("no matter, gone", x, s -> s.hold(5, 0));
        checks.noSuchOne("no matter, gone", x, s -> s.hold(-1, 0));
    }

    // ---- promise 10

    private static void promise10AnswersWhatIsNotKeptAnyMore() {
        Trial x = withOneFile(10);
        x.make(1, 0, 20);
        x.hold(0, 0);
        x.hold(0, 1);
        x.write(0, 11);
        x.write(1, 22);
        x.write(1, 23);
        checks.due("release(0)", x.release(0), 10 + 20 + 22);
        checks.due("kept(0)", x.kept(0), 0);
        checks.due("kept(1)", x.kept(1), 0);
        checks.due("holders(0)", x.holders(0), 0);
        checks.due("the files are as they were", x.size(0) + x.size(1), 34);
        checks.changesNothing("release(0) again", x, 0, s -> s.release(0));
        checks.due("a hold anew", x.hold(0, 0), 1);
        checks.due("keeps nothing from before", x.kept(0), 0);
        checks.due("release of a hold without a writing", x.release(0), 0);
    }

    private static void promise10OfAMatterThatHoldsNothing() {
        Trial x = new Trial();
        for (int matter = 0; matter < 5; matter++) {
            int empty = matter;
            checks.changesNothing("release(" + matter + ") without files", x, 0, s -> s.release(empty));
        }
        x.make(0, 0, 10);
        x.hold(1, 0);
        x.write(0, 10);
        for (int matter : new int[] {0, 2, 3, 4}) {
            checks.changesNothing("release(" + matter + ")", x, 0, s -> s.release(matter));
        }
    }

    private static void promise10LetsOtherMattersHold() {
        Trial x = new Trial();
        for (int f = 0; f < 4; f++) {
            x.make(f, 0, 10);
        }
        x.hold(0, 0);
        x.hold(0, 1);
        x.hold(1, 1);
        x.hold(1, 3);
        for (int f = 0; f < 4; f++) {
            x.write(f, 11 + f);
        }
        checks.due("release(0)", x.release(0), 10);
        checks.due("kept(0)", x.kept(0), 0);
        checks.due("kept(1), held by another", x.kept(1), 10);
        checks.due("holders(1)", x.holders(1), 2);
        checks.due("kept(3), not of the matter", x.kept(3), 10);
        checks.due("write of one that is held still", x.write(1, 5), 22);
        checks.due("write of one that is not", x.write(0, 5), 0);
        checks.due("release(1)", x.release(1), 32);
        checks.due("holders(1)", x.holders(1), 0);
    }

    private static void promise10OfFilesThatAreGone() {
        Trial x = withOneFile(100);
        x.hold(0, 0);
        x.hold(1, 0);
        x.write(0, 30);
        x.unlink(0, 0);
        checks.due("the first release", x.release(0), 0);
        checks.due("kept", x.kept(0), 130);
        checks.due("bill", x.bill(0), 2);
        checks.due("the last release", x.release(1), 130);
        checks.due("kept", x.kept(0), 0);
        checks.due("bill", x.bill(0), 0);
        checks.due("it stays gone", x.home(0), -1);
        checks.changesNothing("a release once more", x, 0, s -> s.release(1));
    }

    private static void promise10OfAllFilesOfAllDepartments() {
        Trial x = new Trial();
        int sum = 0;
        for (int f = 0; f < 30; f++) {
            x.make(f % 4, 0, 1 + f);
            x.hold(4, f);
            x.write(f, 5);
            sum += 1 + f;
        }
        x.unlink(29, 0);
        checks.due("release(4)", x.release(4), sum + 5);
        for (int f = 0; f < 30; f++) {
            checks.due("holders(" + f + ")", x.holders(f), 0);
            checks.due("kept(" + f + ")", x.kept(f), 0);
        }
    }

    private static void promise10RefusesAMatterThatIsNotThere() {
        Trial x = withOneFile(1);
        for (int matter = 0; matter < 5; matter++) {
            x.hold(matter, 0);
        }
        x.write(0, 1);
        for (int matter : Checks.outside(0, 4)) {
            checks.noSuchOne("release(" + matter + ")", x, s -> s.release(matter));
        }
        for (int matter : new int[] {31, 32, 36}) {
            checks.noSuchOne("release(" + matter + ")", x, s -> s.release(matter));
        }
        checks.noSuchOne("release of no matter without files", new Trial(), s -> s.release(5));
    }

    // ---- promise 20

    private static void promise20KeepsEachSizeBeforeAWriting() {
        Trial x = withOneFile(100);
        x.write(0, 200);
        checks.due("nothing from before a hold", x.kept(0), 0);
        x.hold(3, 0);
        checks.due("nothing by the hold", x.kept(0), 0);
        x.write(0, 300);
        checks.due("one size", x.kept(0), 200);
        x.write(0, 300);
        checks.due("a size that stays the same", x.kept(0), 500);
        x.write(0, 1);
        checks.due("a size that shrinks", x.kept(0), 800);
        x.write(0, 1000);
        checks.changesNothing("they add up", x, 801, s -> s.kept(0));
        x.passTo(30);
        checks.due("nothing by days", x.kept(0), 801);
        x.read(0);
        checks.due("nothing by reading", x.kept(0), 801);
    }

    private static void promise20KeepsASizeOnceForSeveralMatters() {
        Trial x = withOneFile(100);
        x.hold(0, 0);
        x.hold(4, 0);
        x.write(0, 50);
        checks.due("for two", x.kept(0), 100);
        x.release(0);
        checks.due("for one of them", x.kept(0), 100);
        x.write(0, 50);
        checks.due("it is held still", x.kept(0), 150);
        x.release(4);
        checks.due("for none", x.kept(0), 0);
    }

    private static void promise20KeepsTheLastSizeWhenItIsGone() {
        Trial x = new Trial();
        x.addDirectory(0, -1);
        x.make(0, 0, 60);
        x.link(0, 1);
        x.hold(1, 0);
        x.write(0, 61);
        x.unlink(0, 0);
        checks.due("a link is left", x.kept(0), 60);
        x.unlink(0, 1);
        checks.changesNothing("no link is left", x, 121, s -> s.kept(0));
        x.pass(100);
        checks.due("100 days later", x.kept(0), 121);
        checks.due("by whom", x.holders(0), 2);
        checks.due("released", x.release(1), 121);
    }

    private static void promise20KeepsNothingWithoutAHold() {
        Trial x = withOneFile(60);
        x.write(0, 50);
        checks.due("a writing", x.kept(0), 0);
        x.hold(2, 0);
        x.release(2);
        x.write(0, 40);
        checks.due("a writing behind a release", x.kept(0), 0);
        x.unlink(0, 0);
        checks.due("gone", x.kept(0), 0);
        checks.due("release", x.release(2), 0);
    }

    private static void promise20KeepsNothingByRefusedCalls() {
        Trial x = withOneFile(60);
        x.hold(2, 0);
        x.addDirectory(0, -1);
        x.setQuota(0, 60);
        checks.notNow("a write without room", x, s -> s.write(0, 61));
        checks.outOfRange("a write of nothing", x, s -> s.write(0, 0));
        checks.notNow("an unlink without a link", x, s -> s.unlink(0, 1));
        checks.due("kept", x.kept(0), 0);
    }

    private static void promise20IsNoUsage() {
        Trial x = withOneFile(60);
        x.hold(2, 0);
        x.write(0, 50);
        x.setQuota(0, 60);
        checks.due("usage", x.usage(0), 50);
        checks.due("it takes no room", x.write(0, 60), 110);
        x.unlink(0, 0);
        checks.due("usage when it is gone", x.usage(0), 0);
        checks.due("by walking", x.usageByWalking(0), 0);
        checks.due("room when it is gone", x.make(0, 0, 60), 1);
    }

    private static void promise20TheMostThatCanBeKept() {
        Trial x = withOneFile(1000);
        x.hold(0, 0);
        for (int i = 1; i <= 500; i++) {
            checks.due("write", x.write(0, 1000), 1000 * i);
        }
        x.unlink(0, 0);
        checks.due("kept", x.kept(0), 501000);
        checks.due("bill", x.bill(0), 5010);
        checks.due("release", x.release(0), 501000);
    }

    // ---- promise 21

    private static void promise21ShowsHoldersAsBits() {
        Trial x = withOneFile(1);
        x.make(0, 0, 1);
        checks.changesNothing("none", x, 0, s -> s.holders(0));
        int bits = 0;
        for (int matter = 4; matter >= 0; matter--) {
            x.hold(matter, 0);
            bits += 1 << matter;
            checks.due("holders(0)", x.holders(0), bits);
        }
        checks.due("the other's", x.holders(1), 0);
        x.hold(4, 1);
        checks.due("the last matter's bit", x.holders(1), 16);
        x.unlink(0, 0);
        checks.changesNothing("of a file that is gone", x, 31, s -> s.holders(0));
        x.release(2);
        checks.due("without the matter 2", x.holders(0), 27);
        checks.due("the other's", x.holders(1), 16);
    }

    private static void promises20And21RefuseAFileThatIsNotThere() {
        Trial x = new Trial();
        for (int file : Checks.outside(0, -1)) {
            checks.noSuchOne("kept(" + file + ") of none", x, s -> s.kept(file));
            checks.noSuchOne("holders(" + file + ") of none", x, s -> s.holders(file));
        }
        x.fillFiles(30, 0);
        checks.due("kept of the last one", x.kept(29), 0);
        checks.due("holders of the last one", x.holders(29), 0);
        for (int file : Checks.outside(0, 29)) {
            checks.noSuchOne("kept(" + file + ") of 30", x, s -> s.kept(file));
            checks.noSuchOne("holders(" + file + ") of 30", x, s -> s.holders(file));
        }
    }
}
