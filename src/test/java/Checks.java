import java.util.function.Supplier;

/** Counts the checks of one test class, prints those that go wrong, and ends with exit code 1 if any did. */
final class Checks {
    private int made;
    private int wrong;

    void due(String told, int got, int due) {
        made++;
        if (got != due) {
            tell(told + " answered " + got + ", due is " + due);
        }
    }

    void due(String told, String got, String due) {
        made++;
        if (!got.equals(due)) {
            tell(told + " shows " + got + ", due is " + due);
        }
    }

    /** The call throws just this exception, and nothing of the server is another behind it. */
    void refused(String told, Trial x, Class<? extends RuntimeException> due, Trial.Call attempt) {
        outcomeIs(told, x, due.getSimpleName(), attempt);
    }

    /** The call gives this answer, and nothing of the server is another behind it. */
    void changesNothing(String told, Trial x, int due, Trial.Call call) {
        outcomeIs(told, x, Integer.toString(due), call);
    }

    private void outcomeIs(String told, Trial x, String due, Trial.Call call) {
        Supplier<Trial> twinsBehindIt = () -> {
            Trial twin = x.twin();
            outcome(twin, call);
            return twin;
        };
        due(told + " changed something: it", Sight.everything(twinsBehindIt), Sight.everything(x::twin));
        due(told, outcome(x, call), due);
    }

    void noSuchOne(String told, Trial x, Trial.Call attempt) {
        refused(told, x, IndexOutOfBoundsException.class, attempt);
    }

    void outOfRange(String told, Trial x, Trial.Call attempt) {
        refused(told, x, IllegalArgumentException.class, attempt);
    }

    void notNow(String told, Trial x, Trial.Call attempt) {
        refused(told, x, IllegalStateException.class, attempt);
    }

    /** The numbers that are just not in a range any more, and those that are furthest from it. */
    static int[] outside(int least, int most) {
        return new int[] {least - 1, most + 1, Integer.MIN_VALUE, Integer.MAX_VALUE};
    }

    /** The answer as text, or the name of what was thrown, and whether the library or the machine threw it. */
    static String outcome(Trial x, Trial.Call call) {
        try {
            return Integer.toString(x.ask(call));
        } catch (RuntimeException e) {
            return (isThrownByCode(e) ? "" : "machine's ") + e.getClass().getSimpleName();
        }
    }

    /** A list's own IndexOutOfBoundsException has the right name, but no call may let it come to that. */
    private static boolean isThrownByCode(RuntimeException e) {
        StackTraceElement[] trace = e.getStackTrace();
        return trace.length > 0 && !trace[0].getClassName().startsWith("java.")
            && !trace[0].getClassName().startsWith("jdk.");
    }

    void end(String name) {
        System.out.println(name + ": " + made + " checks, " + wrong + " wrong");
        if (wrong != 0) {
            System.exit(1);
        }
    }

    private void tell(String text) {
        wrong++;
        if (wrong <= 20) {
            System.out.println(text);
        }
    }
}
