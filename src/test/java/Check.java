/** What all tests of the project share: compare an answer with the one that is due, and count. */
final class Check {
    /** A call that may throw. */
    interface Call {
        void run();
    }

    private static final Class<?> INDEX = IndexOutOfBoundsException.class;
    private static final Class<?> ARGUMENT = IllegalArgumentException.class;
    private static final Class<?> STATE = IllegalStateException.class;

    private static int checks = 0;
    private static int wrong = 0;

    private Check() {
    }

    static void same(String what, long got, long due) {
        checks++;
        if (got != due) {
            complain(what + " answered " + got + ", due is " + due);
        }
    }

    static void same(String what, double got, double due) {
        checks++;
        if (got != due) {
            complain(what + " answered " + got + ", due is " + due);
        }
    }

    static void yes(String what, boolean got) {
        checks++;
        if (!got) {
            complain(what + " answered false, due is true");
        }
    }

    static void no(String what, boolean got) {
        checks++;
        if (got) {
            complain(what + " answered true, due is false");
        }
    }

    /** The call throws an IndexOutOfBoundsException and changes nothing. */
    static void index(String what, BinWard city, Call call) {
        refuses(what, city, call, INDEX);
    }

    /** The call throws an IllegalArgumentException and changes nothing. */
    static void argument(String what, BinWard city, Call call) {
        refuses(what, city, call, ARGUMENT);
    }

    /** The call throws an IllegalStateException and changes nothing. */
    static void state(String what, BinWard city, Call call) {
        refuses(what, city, call, STATE);
    }

    static void complain(String text) {
        wrong++;
        System.out.println(text);
    }

    static void end() {
        System.out.println(checks + " checks, " + wrong + " wrong");
        if (wrong != 0) {
            System.exit(1);
        }
    }

    private static void refuses(String what, BinWard city, Call call, Class<?> due) {
        checks++;
        long before = city.digest();
        Class<?> thrown = null;
        try {
            call.run();
        } catch (RuntimeException e) {
            thrown = e.getClass();
        }
        if (thrown != due) {
            complain(what + " threw " + thrown + ", due is " + due);
        }
        same(what + " then digest()", city.digest(), before);
    }
}
