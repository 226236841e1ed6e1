/** Promises 5 and 6: links of files, and taking them away. */
final class LinkTest {
    private static final Checks checks = new Checks();

    public static void main(String[] args) {
        promise5AnswersHowManyLinksThereAreUpTo12();
        promise5TheHomeStays();
        promise5NeedsNoRoomAndNoCoins();
        promise5OfAFileInEachTier();
        promise5RefusesAFileThatIsNotThere();
        promise5RefusesADirectoryThatIsNotThere();
        promise5RefusesALinkThatIsThere();
        promise5RefusesAFileThatIsGone();
        promise5NamesTheFirstExceptionThatApplies();
        promise6AnswersHowManyLinksAreLeft();
        promise6TheNextHomeIsTheFirstLinkOfThoseThatAreThere();
        promise6ALinkMadeAgainIsTheLast();
        promise6TheNewHomeHeedsNoQuota();
        promise6NeedsNoCoins();
        promise6WithoutALinkTheFileIsGone();
        promise6OfAFileInEachTier();
        promise6KeepsTheSizeOfAHeldFileWithItsLastLink();
        promise6RefusesAFileThatIsNotThere();
        promise6RefusesADirectoryThatIsNotThere();
        promise6RefusesWithoutALink();
        promise6NamesTheFirstExceptionThatApplies();
        checks.end("LinkTest");
    }

    /** 0 over 1 and 3; 1 over 2; a file of 40 in 2. */
    private static Trial withOneFile() {
        Trial x = new Trial();
        x.addDirectory(0, -1);
        x.addDirectory(1, -1);
        x.addDirectory(0, -1);
        x.make(0, 2, 40);
        return x;
    }

    // ---- promise 5

    private static void promise5AnswersHowManyLinksThereAreUpTo12() {
        Trial x = new Trial();
        x.fillDirectories(12);
        x.make(0, 5, 40);
        int links = 1;
        for (int d = 11; d >= 0; d--) {
            if (d != 5) {
                links++;
                checks.due("link(0, " + d + ")", x.link(0, d), links);
            }
        }
        checks.due("how many there are then", links, 12);
        for (int d = 0; d < 12; d++) {
            int directory = d;
            checks.notNow("a second link to " + d, x, s -> s.link(0, directory));
        }
    }

    private static void promise5TheHomeStays() {
        Trial x = withOneFile();
        x.link(0, 0);
        checks.due("home", x.home(0), 2);
        x.link(0, 3);
        checks.due("home", x.home(0), 2);
        checks.due("usage of the home", x.usage(2), 40);
        checks.due("usage of another link", x.usage(3), 0);
        checks.due("the size counts once", x.usage(0), 40);
        checks.due("and is billed once", x.bill(0), 2);
    }

    private static void promise5NeedsNoRoomAndNoCoins() {
        Trial x = withOneFile();
        x.setQuota(3, 0);
        x.setQuota(0, 0);
        checks.due("a link to a directory without room", x.link(0, 3), 2);
        x.setQuota(0, -1);
        x.empty(0);
        checks.due("a link without coins", x.link(0, 0), 3);
        checks.due("coins", x.coins(0), 0);
        Trial y = withOneFile();
        y.link(0, 1);
        checks.due("what a link costs", y.coins(0), 100);
    }

    private static void promise5OfAFileInEachTier() {
        Trial x = withOneFile();
        x.fund(0, 1000);
        x.passTo(30);
        checks.due("in the tier 1", x.link(0, 0), 2);
        checks.due("it is no use", x.tier(0), 1);
        x.passTo(90);
        checks.due("in the tier 2", x.link(0, 1), 3);
        checks.due("it is no use", x.tier(0), 2);
        x.read(0);
        checks.due("while it is brought back", x.link(0, 3), 4);
        checks.changesNothing("it comes back as before", x, 2, s -> s.read(0));
    }

    private static void promise5RefusesAFileThatIsNotThere() {
        Trial x = new Trial();
        for (int file : Checks.outside(0, -1)) {
            checks.noSuchOne("link(" + file + ", 0) of none", x, s -> s.link(file, 0));
        }
        x.addDirectory(0, -1);
        x.fillFiles(30, 0);
        checks.due("link of the last one", x.link(29, 1), 2);
        for (int file : Checks.outside(0, 29)) {
            checks.noSuchOne("link(" + file + ", 1) of 30", x, s -> s.link(file, 1));
        }
    }

    private static void promise5RefusesADirectoryThatIsNotThere() {
        Trial x = withOneFile();
        for (int directory : Checks.outside(0, 3)) {
            checks.noSuchOne("link(0, " + directory + ")", x, s -> s.link(0, directory));
        }
        x.fillDirectories(12);
        for (int directory : Checks.outside(0, 11)) {
            checks.noSuchOne("link(0, " + directory + ") of 12", x, s -> s.link(0, directory));
        }
    }

    private static void promise5RefusesALinkThatIsThere() {
        Trial x = withOneFile();
        checks.notNow("a second link to its home", x, s -> s.link(0, 2));
        x.link(0, 3);
        checks.notNow("a second link to its home, of two", x, s -> s.link(0, 2));
        checks.notNow("a second link to another", x, s -> s.link(0, 3));
        x.unlink(0, 2);
        checks.due("a link where none is any more", x.link(0, 2), 2);
        checks.notNow("once more", x, s -> s.link(0, 2));
        x.make(0, 0, 1);
        checks.due("where another file has its link", x.link(1, 2), 2);
    }

    private static void promise5RefusesAFileThatIsGone() {
        Trial x = withOneFile();
        x.hold(0, 0);
        x.unlink(0, 2);
        checks.notNow("a link where its last one was", x, s -> s.link(0, 2));
        checks.notNow("a link elsewhere", x, s -> s.link(0, 1));
        x.release(0);
        checks.notNow("a link when it is not held", x, s -> s.link(0, 2));
    }

    private static void promise5NamesTheFirstExceptionThatApplies() {
        Trial x = withOneFile();
        checks.noSuchOne("no file, no directory", x, s -> s.link(1, 4));
        x.unlink(0, 2);
        checks.noSuchOne("gone, no directory", x, s -> s.link(0, 4));
        checks.noSuchOne("gone, no directory", x, s -> s.link(0, -1));
    }

    // ---- promise 6

    private static void promise6AnswersHowManyLinksAreLeft() {
        Trial x = new Trial();
        x.fillDirectories(12);
        x.make(0, 0, 40);
        for (int d = 1; d < 12; d++) {
            x.link(0, d);
        }
        int left = 12;
        for (int d : new int[] {0, 11, 6, 1, 2, 10, 9, 3, 5, 4, 7, 8}) {
            left--;
            checks.due("unlink(0, " + d + ")", x.unlink(0, d), left);
        }
        checks.due("how many there are then", left, 0);
    }

    private static void promise6TheNextHomeIsTheFirstLinkOfThoseThatAreThere() {
        Trial x = withOneFile();
        x.link(0, 3);
        x.link(0, 0);
        x.link(0, 1);
        checks.due("unlink of a middle link", x.unlink(0, 0), 3);
        checks.due("the home stays", x.home(0), 2);
        checks.due("unlink of the last link", x.unlink(0, 1), 2);
        checks.due("the home stays", x.home(0), 2);
        checks.due("usage of the home", x.usage(2), 40);
        x.link(0, 0);
        checks.due("unlink of the home", x.unlink(0, 2), 2);
        checks.due("the next home", x.home(0), 3);
        checks.due("usage of the next home", x.usage(3), 40);
        checks.due("usage of the home before", x.usage(2), 0);
        checks.due("usage above the home before", x.usage(1), 0);
        checks.due("usage of the root", x.usage(0), 40);
    }

    private static void promise6ALinkMadeAgainIsTheLast() {
        Trial x = withOneFile();
        x.link(0, 3);
        x.link(0, 1);
        x.unlink(0, 2);
        x.link(0, 2);
        checks.due("unlink", x.unlink(0, 3), 2);
        checks.due("the home is the link before it", x.home(0), 1);
        checks.due("unlink", x.unlink(0, 1), 1);
        checks.due("the home is the link made again", x.home(0), 2);
    }

    private static void promise6TheNewHomeHeedsNoQuota() {
        Trial x = withOneFile();
        x.link(0, 3);
        x.setQuota(3, 0);
        x.setQuota(0, 0);
        checks.due("unlink into a directory without room", x.unlink(0, 2), 1);
        checks.due("home", x.home(0), 3);
        checks.due("its usage", x.usage(3), 40);
        x.setQuota(0, -1);
        checks.notNow("growth there", x, s -> s.write(0, 41));
        checks.notNow("a file there", x, s -> s.make(0, 3, 1));
        checks.due("a file where it was", x.make(0, 2, 1), 1);
    }

    private static void promise6NeedsNoCoins() {
        Trial x = withOneFile();
        x.link(0, 3);
        x.empty(0);
        checks.due("unlink of the home", x.unlink(0, 2), 1);
        checks.due("unlink of the last link", x.unlink(0, 3), 0);
        checks.due("coins", x.coins(0), 0);
        Trial y = withOneFile();
        y.unlink(0, 2);
        checks.due("what unlinking costs", y.coins(0), 100);
    }

    private static void promise6WithoutALinkTheFileIsGone() {
        Trial x = withOneFile();
        checks.due("unlink", x.unlink(0, 2), 0);
        checks.due("size", x.size(0), 0);
        checks.due("home", x.home(0), -1);
        checks.due("tier", x.tier(0), -1);
        checks.due("kept", x.kept(0), 0);
        checks.due("holders", x.holders(0), 0);
        checks.due("usage(2)", x.usage(2), 0);
        checks.due("usage(0)", x.usage(0), 0);
        checks.due("usageByWalking(0)", x.usageByWalking(0), 0);
        checks.due("bill(0)", x.bill(0), 0);
        checks.due("files()", x.files(), 1);
    }

    private static void promise6OfAFileInEachTier() {
        Trial x = withOneFile();
        x.fund(0, 1000);
        x.link(0, 3);
        x.link(0, 1);
        x.link(0, 0);
        x.passTo(30);
        checks.due("in the tier 1", x.unlink(0, 2), 3);
        checks.due("it is no use", x.tier(0), 1);
        x.passTo(90);
        checks.due("in the tier 2", x.unlink(0, 3), 2);
        checks.due("it is no use", x.tier(0), 2);
        x.read(0);
        checks.due("while it is brought back", x.unlink(0, 1), 1);
        checks.changesNothing("it comes back as before", x, 2, s -> s.read(0));
        checks.due("the last while it is brought back", x.unlink(0, 0), 0);
        checks.due("tier", x.tier(0), -1);
    }

    private static void promise6KeepsTheSizeOfAHeldFileWithItsLastLink() {
        Trial x = withOneFile();
        x.link(0, 3);
        x.hold(4, 0);
        x.unlink(0, 2);
        checks.due("kept while a link is left", x.kept(0), 0);
        x.unlink(0, 3);
        checks.due("kept without a link", x.kept(0), 40);
        checks.due("the bill of what is kept", x.bill(0), 1);
    }

    private static void promise6RefusesAFileThatIsNotThere() {
        Trial x = new Trial();
        for (int file : Checks.outside(0, -1)) {
            checks.noSuchOne("unlink(" + file + ", 0) of none", x, s -> s.unlink(file, 0));
        }
        x.fillFiles(30, 0);
        for (int file : Checks.outside(0, 29)) {
            checks.noSuchOne("unlink(" + file + ", 0) of 30", x, s -> s.unlink(file, 0));
        }
        checks.due("unlink of the last one", x.unlink(29, 0), 0);
    }

    private static void promise6RefusesADirectoryThatIsNotThere() {
        Trial x = withOneFile();
        for (int directory : Checks.outside(0, 3)) {
            checks.noSuchOne("unlink(0, " + directory + ")", x, s -> s.unlink(0, directory));
        }
        x.fillDirectories(12);
        for (int directory : Checks.outside(0, 11)) {
            checks.noSuchOne("unlink(0, " + directory + ") of 12", x, s -> s.unlink(0, directory));
        }
        x.link(0, 11);
        checks.due("of the last directory", x.unlink(0, 11), 1);
    }

    private static void promise6RefusesWithoutALink() {
        Trial x = withOneFile();
        checks.notNow("unlink from above its home", x, s -> s.unlink(0, 1));
        checks.notNow("unlink from the root", x, s -> s.unlink(0, 0));
        x.make(0, 0, 1);
        checks.notNow("unlink from where another file is", x, s -> s.unlink(0, 0));
        x.link(0, 1);
        x.unlink(0, 1);
        checks.notNow("unlink once more", x, s -> s.unlink(0, 1));
        x.hold(0, 0);
        x.unlink(0, 2);
        checks.notNow("unlink of a file that is gone", x, s -> s.unlink(0, 2));
        checks.notNow("unlink of a file that is gone, elsewhere", x, s -> s.unlink(0, 3));
    }

    private static void promise6NamesTheFirstExceptionThatApplies() {
        Trial x = withOneFile();
        checks.noSuchOne("no file, no directory", x, s -> s.unlink(1, 4));
        x.unlink(0, 2);
        checks.noSuchOne("gone, no directory", x, s -> s.unlink(0, 4));
        checks.noSuchOne("gone, no directory", x, s -> s.unlink(0, -1));
    }
}
