/** All that a server shows to the calls that change nothing, as one text. */
final class Sight {
    private Sight() {
    }

    static String of(HoldServer x) {
        StringBuilder text = new StringBuilder();
        text.append("day ").append(x.day());
        for (int d = 0; d < x.directories(); d++) {
            text.append("; directory ").append(d).append(": ").append(x.usage(d))
                .append(' ').append(x.usageByWalking(d));
        }
        for (int f = 0; f < x.files(); f++) {
            text.append("; file ").append(f).append(": ").append(x.size(f)).append(' ').append(x.home(f))
                .append(' ').append(x.kept(f)).append(' ').append(x.holders(f)).append(' ').append(x.tier(f));
        }
        for (int p = 0; p < 4; p++) {
            text.append("; department ").append(p).append(": ").append(x.coins(p)).append(' ').append(x.bill(p));
        }
        return text.toString();
    }
}
