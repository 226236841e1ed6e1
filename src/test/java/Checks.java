/** Counts the checks of one test class, prints those that go wrong, and ends with exit code 1 if any did. */
final class Checks {
    interface Call {
        int answer();
    }

    private int made;
    private int wrong;

    void due(String call, int got, int due) {
        made++;
        if (got != due) {
            tell(call + " answered " + got + ", due is " + due);
        }
    }

    void due(String call, String got, String due) {
        made++;
        if (!got.equals(due)) {
            tell(call + " shows " + got + ", due is " + due);
        }
    }

    /** The call throws just this exception, and the server shows the same before and behind it. */
    void refused(String call, HoldServer server, Class<? extends RuntimeException> due, Call attempt) {
        String before = Sight.of(server);
        due(call, outcome(attempt), due.getSimpleName());
        due(call + " changed something: it", Sight.of(server), before);
    }

    void noSuchOne(String call, HoldServer server, Call attempt) {
        refused(call, server, IndexOutOfBoundsException.class, attempt);
    }

    void outOfRange(String call, HoldServer server, Call attempt) {
        refused(call, server, IllegalArgumentException.class, attempt);
    }

    void notNow(String call, HoldServer server, Call attempt) {
        refused(call, server, IllegalStateException.class, attempt);
    }

    /** The answer as text, or the name of what was thrown, and whether the library or the machine threw it. */
    static String outcome(Call call) {
        try {
            return Integer.toString(call.answer());
        } catch (RuntimeException e) {
            return (isThrownByCode(e) ? "" : "machine's ") + e.getClass().getSimpleName();
        }
    }

    /** A list's own IndexOutOfBoundsException has the right name, but no call may let it come to that. */
    private static boolean isThrownByCode(RuntimeException e) {
        StackTraceElement[] trace = e.getStackTrace();
        return trace.length > 0 && !trace[0].getClassName().startsWith("java.")
            && !trace[0].getClassName().startsWith("jdk.");
    }

    void end(String name) {
        System.out.println(name + ": " + made + " checks, " + wrong + " wrong");
        if (wrong != 0) {
            System.exit(1);
        }
    }

    private void tell(String text) {
        wrong++;
        if (wrong <= 20) {
            System.out.println(text);
        }
    }
}
