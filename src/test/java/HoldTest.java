/** Promises 9, 10, 20 and 21: holds, and what is kept under them. */
final class HoldTest {
    private static final Checks checks = new Checks();

    public static void main(String[] args) {
        promise9Holds();
        promise9Refuses();
        promise10ReleasesAllFilesOfAMatter();
        promise10Refuses();
        promise20KeepsOldSizes();
        promise20KeepsAFileThatIsGone();
        promises20And21RefuseUnknownFiles();
        promise21ShowsHoldersAsBits();
        checks.end("HoldTest");
    }

    private static void promise9Holds() {
        HoldServer x = new HoldServer();
        x.make(0, 0, 1);
        for (int matter = 0; matter < 5; matter++) {
            checks.due("hold", x.hold(matter, 0), matter + 1);
            checks.due("the same hold again", x.hold(matter, 0), matter + 1);
        }
        x.pass(100);
        checks.due("hold in the tier 2", x.hold(2, 0), 5);
        checks.due("and it stays there", x.tier(0), 2);
    }

    private static void promise9Refuses() {
        HoldServer x = new HoldServer();
        x.make(0, 0, 1);
        for (int matter : new int[] {-1, 5, 31, 32, Integer.MIN_VALUE, Integer.MAX_VALUE}) {
            checks.noSuchOne("hold(" + matter + ", 0)", x, () -> x.hold(matter, 0));
        }
        for (int file : new int[] {-1, 1, Integer.MIN_VALUE, Integer.MAX_VALUE}) {
            checks.noSuchOne("hold(0, " + file + ")", x, () -> x.hold(0, file));
        }
        x.hold(0, 0);
        x.unlink(0, 0);
        checks.notNow("a second hold of a file that is gone", x, () -> x.hold(1, 0));
        checks.notNow("the same hold of a file that is gone", x, () -> x.hold(0, 0));
        checks.noSuchOne("no matter, and a file that is gone", x, () -> x.hold(5, 0));
    }

    private static void promise10ReleasesAllFilesOfAMatter() {
        HoldServer x = new HoldServer();
        for (int f = 0; f < 4; f++) {
            x.make(f, 0, 10);
        }
        x.hold(0, 0);
        x.hold(0, 1);
        x.hold(1, 1);
        x.hold(0, 2);
        x.hold(1, 3);
        for (int f = 0; f < 4; f++) {
            x.write(f, 11 + f);
        }
        x.unlink(2, 0);
        checks.due("kept(2)", x.kept(2), 23);
        checks.due("release(4)", x.release(4), 0);
        checks.due("release(0)", x.release(0), 33);
        checks.due("kept(0)", x.kept(0), 0);
        checks.due("kept(1), held by another", x.kept(1), 10);
        checks.due("kept(2)", x.kept(2), 0);
        checks.due("kept(3), not of the matter", x.kept(3), 10);
        checks.due("holders(1)", x.holders(1), 2);
        checks.due("release(0) again", x.release(0), 0);
        checks.due("release(1)", x.release(1), 20);
        checks.due("holders(1)", x.holders(1), 0);
        checks.due("write after it", x.write(1, 5), 0);
        checks.due("the file is still there", x.size(0), 11);
        checks.due("the file that is gone stays gone", x.home(2), -1);
    }

    private static void promise10Refuses() {
        HoldServer x = new HoldServer();
        x.make(0, 0, 1);
        x.hold(0, 0);
        for (int matter : new int[] {-1, 5, 32, Integer.MIN_VALUE, Integer.MAX_VALUE}) {
            checks.noSuchOne("release(" + matter + ")", x, () -> x.release(matter));
        }
        checks.due("a new object", new HoldServer().release(4), 0);
    }

    private static void promise20KeepsOldSizes() {
        HoldServer x = new HoldServer();
        x.make(0, 0, 100);
        x.write(0, 200);
        checks.due("nothing before a hold", x.kept(0), 0);
        x.hold(3, 0);
        checks.due("nothing by the hold", x.kept(0), 0);
        x.write(0, 300);
        checks.due("one size", x.kept(0), 200);
        x.write(0, 300);
        checks.due("the same size", x.kept(0), 500);
        x.hold(4, 0);
        x.write(0, 1);
        checks.due("once for two matters", x.kept(0), 800);
        x.release(3);
        checks.due("still held", x.kept(0), 800);
        x.write(0, 2);
        checks.due("still kept", x.kept(0), 801);
        checks.due("release(4)", x.release(4), 801);
        x.write(0, 3);
        x.hold(4, 0);
        checks.due("not from before", x.kept(0), 0);
        x.setQuota(0, 0);
        checks.notNow("a write that is refused", x, () -> x.write(0, 4));
        checks.due("nothing by that", x.kept(0), 0);
    }

    private static void promise20KeepsAFileThatIsGone() {
        HoldServer x = new HoldServer();
        x.addDirectory(0, -1);
        x.make(0, 0, 60);
        x.link(0, 1);
        x.hold(1, 0);
        x.unlink(0, 0);
        checks.due("a link is left", x.kept(0), 0);
        x.unlink(0, 1);
        checks.due("no link is left", x.kept(0), 60);
        checks.due("what is kept is no usage", x.usage(0), 0);
        checks.due("nor by walking", x.usageByWalking(0), 0);
        checks.due("release", x.release(1), 60);
        checks.due("kept", x.kept(0), 0);
    }

    private static void promises20And21RefuseUnknownFiles() {
        HoldServer x = new HoldServer();
        x.make(0, 0, 1);
        for (int file : new int[] {-1, 1, 30, Integer.MIN_VALUE, Integer.MAX_VALUE}) {
            checks.noSuchOne("kept(" + file + ")", x, () -> x.kept(file));
            checks.noSuchOne("holders(" + file + ")", x, () -> x.holders(file));
        }
    }

    private static void promise21ShowsHoldersAsBits() {
        HoldServer x = new HoldServer();
        x.make(0, 0, 1);
        x.make(0, 0, 1);
        checks.due("none", x.holders(0), 0);
        int bits = 0;
        for (int matter = 4; matter >= 0; matter--) {
            x.hold(matter, 0);
            bits += 1 << matter;
            checks.due("holders(0)", x.holders(0), bits);
        }
        checks.due("the other's", x.holders(1), 0);
        x.unlink(0, 0);
        checks.due("of a file that is gone", x.holders(0), 31);
        x.release(2);
        checks.due("without the matter 2", x.holders(0), 27);
    }
}
