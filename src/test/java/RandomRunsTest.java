import java.util.Random;
import java.util.TreeMap;

/**
 * Runs of 512 calls with drawn arguments (the seeds are fixed): HoldServer answers and throws the
 * same as PlainServer, call by call, and shows the same at the end.
 */
final class RandomRunsTest {
    private static final int RUNS = 2400;
    // Each call with an answer and with each of its exceptions.
    private static final int KINDS_OF_OUTCOMES = 57;
    private static final int[] WRONG = {-1, -2, 0, 4, 5, 12, 30, 101, 1001, 10001, 100001, Integer.MIN_VALUE, Integer.MAX_VALUE};
    private static final int[] FEW_DAYS = {1, 1, 1, 2, 3};
    private static final int[] MANY_DAYS = {1, 2, 27, 29, 30, 31, 59, 60, 89, 90, 100};
    private static final String[] CALLED = {
        "addDirectory", "setQuota", "make", "make", "link", "link", "unlink", "write", "write", "write",
        "read", "read", "hold", "hold", "release", "fund", "pass", "pass",
    };
    private static final String[] TELLING = {
        "day", "directories", "files", "usage", "usageByWalking", "size", "home", "kept", "holders", "tier", "coins", "bill",
    };

    private final int seed;
    private final Random drawn;
    private final int[] days;
    private final Trial server = new Trial();
    private final PlainServer plain = new PlainServer();

    private RandomRunsTest(int seed) {
        this.seed = seed;
        drawn = new Random(seed);
        days = seed % 2 == 0 ? FEW_DAYS : MANY_DAYS;
    }

    public static void main(String[] args) {
        Checks checks = new Checks();
        TreeMap<String, Integer> seen = new TreeMap<>();
        for (int seed = 0; seed < RUNS; seed++) {
            new RandomRunsTest(seed).run(checks, seen);
        }
        System.out.println("outcomes seen: " + seen);
        checks.due("the number of kinds of outcomes", seen.size(), KINDS_OF_OUTCOMES);
        checks.end("RandomRunsTest");
    }

    private void run(Checks checks, TreeMap<String, Integer> seen) {
        while (server.callsMade() + 1 + callsOfASight() <= Trial.MOST_CALLS) {
            String name = drawnName();
            int[] a = argumentsFor(name);
            if (drawn.nextInt(25) == 0) {
                a[drawn.nextInt(3)] = WRONG[drawn.nextInt(WRONG.length)];
            }
            String told = "run " + seed + ", call " + server.callsMade() + ": " + name + "(" + a[0] + ", " + a[1] + ", " + a[2] + ")";
            String due = outcomeOfPlain(name, a);
            checks.due(told, Checks.outcome(server, s -> call(s, name, a[0], a[1], a[2])), due);
            String kind = name + (due.endsWith("Exception") ? " " + due : "");
            seen.merge(kind, 1, Integer::sum);
        }
        checks.due("run " + seed + " at its end", Sight.of(server), plain.sight());
    }

    /** As one more file would show, too, since the next call may make it. */
    private int callsOfASight() {
        return 1 + 1 + 2 * plain.directories() + 1 + 5 * (plain.files() + 1) + 2 * 4;
    }

    private String outcomeOfPlain(String name, int[] a) {
        try {
            return Integer.toString(plain.call(name, a[0], a[1], a[2]));
        } catch (RuntimeException e) {
            return e.getClass().getSimpleName();
        }
    }

    /** A few runs do little but fund or let days go by, since only these reach the most coins and the last day. */
    private String drawnName() {
        if (seed % 50 == 1 && drawn.nextInt(3) != 0) {
            return "pass";
        }
        if (seed % 50 == 2 && drawn.nextInt(3) != 0) {
            return "fund";
        }
        return drawn.nextInt(4) == 0 ? TELLING[drawn.nextInt(TELLING.length)] : CALLED[drawn.nextInt(CALLED.length)];
    }

    private int[] argumentsFor(String name) {
        int directory = drawn.nextInt(plain.directories());
        int file = drawn.nextInt(Math.max(1, plain.files()));
        int matter = drawn.nextInt(5);
        int department = drawn.nextInt(4);
        int size = drawn.nextInt(3) == 0 ? 1 + drawn.nextInt(1000) : 1 + drawn.nextInt(60);
        switch (name) {
            case "addDirectory": return new int[] {directory, quota(), 0};
            case "setQuota": return new int[] {directory, quota(), 0};
            case "make": return new int[] {department, directory, size};
            case "write": return new int[] {file, size, 0};
            case "hold": return new int[] {matter, file, 0};
            case "release": return new int[] {matter, 0, 0};
            case "fund": return fundArguments(department);
            case "pass": return new int[] {seed % 50 == 1 ? 100 : days[drawn.nextInt(days.length)], 0, 0};
            case "usage": return new int[] {directory, 0, 0};
            case "usageByWalking": return new int[] {directory, 0, 0};
            case "coins": return new int[] {department, 0, 0};
            case "bill": return new int[] {department, 0, 0};
            default: return new int[] {file, directory, 0};
        }
    }

    private int[] fundArguments(int department) {
        if (seed % 50 == 2) {
            return new int[] {0, 10000 - drawn.nextInt(3), 0};
        }
        return new int[] {department, 1 + drawn.nextInt(drawn.nextInt(2) == 0 ? 50 : 10000), 0};
    }

    private int quota() {
        switch (drawn.nextInt(3)) {
            case 0: return -1;
            case 1: return drawn.nextInt(300);
            default: return drawn.nextInt(5000);
        }
    }

    private static int call(HoldServer server, String name, int a, int b, int c) {
        switch (name) {
            case "addDirectory": return server.addDirectory(a, b);
            case "setQuota": return server.setQuota(a, b);
            case "make": return server.make(a, b, c);
            case "link": return server.link(a, b);
            case "unlink": return server.unlink(a, b);
            case "write": return server.write(a, b);
            case "read": return server.read(a);
            case "hold": return server.hold(a, b);
            case "release": return server.release(a);
            case "fund": return server.fund(a, b);
            case "pass": return server.pass(a);
            case "day": return server.day();
            case "directories": return server.directories();
            case "files": return server.files();
            case "usage": return server.usage(a);
            case "usageByWalking": return server.usageByWalking(a);
            case "size": return server.size(a);
            case "home": return server.home(a);
            case "kept": return server.kept(a);
            case "holders": return server.holders(a);
            case "tier": return server.tier(a);
            case "coins": return server.coins(a);
            case "bill": return server.bill(a);
            default: throw new AssertionError("no call is named " + name);
        }
    }
}
