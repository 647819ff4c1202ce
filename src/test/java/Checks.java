/** Compares the outcome of calls with the one that is due, and tells at the end how many were wrong. */
final class Checks {
    static final String PLACE = "throws.IndexOutOfBoundsException";
    static final String ARGUMENT = "throws.IllegalArgumentException";
    static final String STATE = "throws.IllegalStateException";

    private static int checked = 0;
    private static int wrong = 0;

    interface Call {
        long answer();
    }

    interface Question {
        boolean answer();
    }

    private Checks() {
    }

    static String outcome(Call call) {
        try {
            return Long.toString(call.answer());
        } catch (RuntimeException thrown) {
            return "throws." + thrown.getClass().getSimpleName();
        }
    }

    static void same(String what, String got, String due) {
        checked++;
        if (!got.equals(due)) {
            wrong++;
            System.out.println(what + " answered " + got + ", due is " + due);
        }
    }

    static void answers(String what, long due, Call call) {
        same(what, outcome(call), Long.toString(due));
    }

    static void holds(String what, boolean due, Question question) {
        same(what, outcome(() -> question.answer() ? 1 : 0), due ? "1" : "0");
    }

    static void refuses(String what, String due, Call call) {
        same(what, outcome(call), due);
    }

    static int set(int... members) {
        int bits = 0;
        for (int member : members) {
            bits |= 1 << member;
        }
        return bits;
    }

    static void end(String test) {
        System.out.println(test + ": " + checked + " checks, " + wrong + " wrong");
        if (wrong != 0 || checked == 0) {
            System.exit(1);
        }
    }
}
