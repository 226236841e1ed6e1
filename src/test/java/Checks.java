/** Counts the checks of one test class, prints those that go wrong, and ends with exit code 1 if any did. */
final class Checks {
    interface Call {
        int answer();
    }

    private int made;
    private int wrong;

    void due(String call, int got, int due) {
        made++;
        if (got != due) {
            tell(call + " answered " + got + ", due is " + due);
        }
    }

    void due(String call, String got, String due) {
        made++;
        if (!got.equals(due)) {
            tell(call + " shows " + got + ", due is " + due);
        }
    }

    /** The call throws just this exception, and the server shows the same before and behind it. */
    void refused(String call, HoldServer server, Class<? extends RuntimeException> due, Call made) {
        String before = Sight.of(server);
        due(call, outcome(made), due.getSimpleName());
        due(call + " changed something: it", Sight.of(server), before);
    }

    void noSuchOne(String call, HoldServer server, Call made) {
        refused(call, server, IndexOutOfBoundsException.class, made);
    }

    void outOfRange(String call, HoldServer server, Call made) {
        refused(call, server, IllegalArgumentException.class, made);
    }

    void notNow(String call, HoldServer server, Call made) {
        refused(call, server, IllegalStateException.class, made);
    }

    /** The answer as text, or the name of what was thrown. */
    static String outcome(Call call) {
        try {
            return Integer.toString(call.answer());
        } catch (RuntimeException e) {
            return e.getClass().getSimpleName();
        }
    }

    void end(String name) {
        System.out.println(name + ": " + made + " checks, " + wrong + " wrong");
        if (wrong != 0) {
            System.exit(1);
        }
    }

    private void tell(String text) {
        wrong++;
        if (wrong <= 20) {
            System.out.println(text);
        }
    }
}
