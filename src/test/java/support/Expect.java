/** Counts and prints the answers that are not as due. */
final class Expect {
    interface Call {
        void run();
    }

    private static int looked = 0;
    private static int wrong = 0;
    private static String beside = "";

    private Expect() {
    }

    /** What is printed before each answer that is not as due, from now on. */
    static void beside(String words) {
        beside = words;
    }

    static int looks() {
        return looked;
    }

    static void same(String what, long got, long due) {
        note(got == due, what + " answered " + got + ", due is " + due);
    }

    static void same(String what, boolean got, boolean due) {
        note(got == due, what + " answered " + got + ", due is " + due);
    }

    static void near(String what, double got, double due) {
        note(got == due, what + " answered " + got + ", due is " + due);
    }

    static void index(String what, Call call) {
        refused(what, IndexOutOfBoundsException.class, call);
    }

    static void argument(String what, Call call) {
        refused(what, IllegalArgumentException.class, call);
    }

    static void state(String what, Call call) {
        refused(what, IllegalStateException.class, call);
    }

    /** The class itself is due: a class of the machine's below it would be wrong. */
    private static void refused(String what, Class<?> due, Call call) {
        Class<?> got = null;
        try {
            call.run();
        } catch (RuntimeException e) {
            got = e.getClass();
        }
        note(got == due, what + " threw " + got + ", due is " + due);
    }

    static void note(boolean right, String words) {
        looked++;
        if (!right) {
            wrong++;
            if (wrong <= 40) {
                System.out.println(beside + words);
            }
        }
    }

    static void end() {
        System.out.println(looked + " answers, " + wrong + " not as due");
        if (wrong != 0) {
            System.exit(1);
        }
    }
}
