import java.util.function.Supplier;

/** What a server shows, as one text. */
final class Sight {
    private static final int LAST_DAY = 10000;
    // Behind so many days without use a file has gone through all tiers, also when it is brought back first.
    private static final int DAYS_OF_ALL_TIERS = 93;

    private Sight() {
    }

    /** All that the calls show that change nothing. */
    static String of(Trial x) {
        StringBuilder text = new StringBuilder();
        text.append("day ").append(x.day());
        int directories = x.directories();
        for (int d = 0; d < directories; d++) {
            text.append("; directory ").append(d).append(": ").append(x.usage(d))
                .append(' ').append(x.usageByWalking(d));
        }
        int files = x.files();
        for (int f = 0; f < files; f++) {
            text.append("; file ").append(f).append(": ").append(x.size(f)).append(' ').append(x.home(f))
                .append(' ').append(x.kept(f)).append(' ').append(x.holders(f)).append(' ').append(x.tier(f));
        }
        for (int p = 0; p < 4; p++) {
            text.append("; department ").append(p).append(": ").append(x.coins(p)).append(' ').append(x.bill(p));
        }
        return text.toString();
    }

    /**
     * All that can be found out about a state by any calls: quotas, the order of links, the days of
     * last use and what is being brought back, too. Each question goes to a server of its own,
     * since most of them use up what they ask for.
     */
    static String everything(Supplier<Trial> twins) {
        StringBuilder text = new StringBuilder(of(twins.get()));
        appendQuotas(text, twins.get());
        appendLinks(text, twins.get());
        int files = twins.get().files();
        for (int f = 0; f < files; f++) {
            appendDaysOfTiers(text, twins.get(), f);
            appendReading(text, twins.get(), f);
        }
        return text.toString();
    }

    private static void appendQuotas(StringBuilder text, Trial x) {
        text.append("; quotas:");
        int directories = x.directories();
        for (int d = 0; d < directories; d++) {
            text.append(' ').append(x.setQuota(d, -1));
        }
    }

    private static void appendLinks(StringBuilder text, Trial x) {
        int files = x.files();
        for (int f = 0; f < files; f++) {
            text.append("; links of ").append(f).append(':');
            for (int home = x.home(f); home != -1; home = x.home(f)) {
                text.append(' ').append(home).append('/').append(x.unlink(f, home));
            }
        }
        text.append("; released:");
        for (int matter = 0; matter < 5; matter++) {
            text.append(' ').append(x.release(matter));
        }
    }

    private static void appendDaysOfTiers(StringBuilder text, Trial x, int file) {
        text.append("; tiers of ").append(file).append(':');
        int days = Math.min(DAYS_OF_ALL_TIERS, LAST_DAY - x.day());
        int before = x.tier(file);
        int since = 0;
        for (int i = 1; i <= days && before != -1; i++) {
            x.pass(1);
            int tier = x.tier(file);
            if (tier != before) {
                text.append(' ').append(before).append('x').append(i - since);
                before = tier;
                since = i;
            }
        }
        text.append(' ').append(before);
    }

    private static void appendReading(StringBuilder text, Trial x, int file) {
        text.append("; reading ").append(file).append(": ").append(Checks.outcome(x, s -> s.read(file)));
        for (int department = 0; department < 4; department++) {
            text.append(' ').append(x.coins(department));
        }
    }
}
