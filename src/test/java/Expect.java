/** Counts and prints the answers that are not the ones that are due. */
final class Expect {
    /** A call whose answer, or whose exception, is looked at. */
    interface Call {
        Object answer();
    }

    private static int wrong = 0;
    private static int looked = 0;

    private Expect() {
    }

    /** Looks at an answer; a number of another type, or another sign of zero, is another answer. */
    static void is(String what, Object got, Object due) {
        looked++;
        if (!due.equals(got)) {
            wrong++;
            System.out.println(what + " answered " + got + ", due is " + due);
        }
    }

    /** Looks at the very class: the machine's exceptions are of classes below the document's. */
    static void raises(String what, Class<? extends RuntimeException> due, Call call) {
        looked++;
        String got;
        try {
            got = "answered " + call.answer();
        } catch (RuntimeException e) {
            if (e.getClass() == due) {
                return;
            }
            got = "threw " + e.getClass().getName();
        }
        wrong++;
        System.out.println(what + " " + got + ", due is " + due.getName());
    }

    static void noLayer(String what, Call call) {
        raises(what, IndexOutOfBoundsException.class, call);
    }

    static void noIndex(String what, Call call) {
        raises(what, IndexOutOfBoundsException.class, call);
    }

    static void badNumber(String what, Call call) {
        raises(what, IllegalArgumentException.class, call);
    }

    static void badState(String what, Call call) {
        raises(what, IllegalStateException.class, call);
    }

    static void nothingThere(String what, Call call) {
        raises(what, java.util.NoSuchElementException.class, call);
    }

    /** Ends the test with its exit code. */
    static void end(String test) {
        System.out.println(test + ": " + looked + " looked at, " + wrong + " wrong");
        if (wrong != 0 || looked == 0) {
            System.exit(1);
        }
    }
}
