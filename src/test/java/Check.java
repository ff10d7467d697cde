/** What the tests share: they print each answer that is not due, and end with exit code 1 if there was one. */
final class Check {
    private static final Class<?> BOUNDS = IndexOutOfBoundsException.class;
    private static final Class<?> ARGUMENT = IllegalArgumentException.class;
    private static final Class<?> STATE = IllegalStateException.class;

    private static int wrong = 0;

    private Check() {
    }

    interface Call {
        void run();
    }

    static void same(String what, long due, long got) {
        if (due != got) {
            fail(what + " answered " + got + ", due is " + due);
        }
    }

    static void same(String what, boolean due, boolean got) {
        if (due != got) {
            fail(what + " answered " + got + ", due is " + due);
        }
    }

    static void throwsBounds(String what, BoilerLog house, Call call) {
        throwsExactly(BOUNDS, what, house, call);
    }

    static void throwsArgument(String what, BoilerLog house, Call call) {
        throwsExactly(ARGUMENT, what, house, call);
    }

    static void throwsState(String what, BoilerLog house, Call call) {
        throwsExactly(STATE, what, house, call);
    }

    static void fail(String what) {
        wrong++;
        System.out.println(what);
    }

    static void end() {
        if (wrong != 0) {
            System.out.println(wrong + " answers are not as due");
            System.exit(1);
        }
    }

    /** Writes a text into the chat, a Java string's characters one by one. */
    static void write(BoilerLog house, String text) {
        house.clear();
        for (int place = 0; place < text.length(); place++) {
            house.insert(place, text.charAt(place));
        }
    }

    /** Writes a text and posts it. */
    static int post(BoilerLog house, int person, int thread, String text) {
        write(house, text);
        return house.post(person, thread);
    }

    /** Whether a statement of the class threw it, not the machine or the library in its place. */
    static boolean isOwnThrow(RuntimeException thrown) {
        StackTraceElement[] trace = thrown.getStackTrace();
        return trace.length > 0 && trace[0].getClassName().startsWith("BoilerLog");
    }

    // A call that throws must throw just the due class, and leave all that can be seen as it was.
    private static void throwsExactly(Class<?> due, String what, BoilerLog house, Call call) {
        String before = View.of(house);
        Class<?> got = null;
        try {
            call.run();
        } catch (RuntimeException thrown) {
            got = thrown.getClass();
            same(what + ": thrown by the class itself", true, isOwnThrow(thrown));
        }
        if (got != due) {
            fail(what + " threw " + got + ", due is " + due);
        }
        String after = View.of(house);
        if (!before.equals(after)) {
            fail(what + " threw and changed something:\n" + before + "\n" + after);
        }
    }
}
