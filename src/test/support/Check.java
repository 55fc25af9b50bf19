/** Counts calls whose answer is not the one that is due, and prints them. */
final class Check {
    interface Call {
        long answer();
    }

    private static int calls = 0;
    private static int wrong = 0;

    private Check() {
    }

    static void answers(String told, long due, Call call) {
        compare(told, String.valueOf(due), outcome(call));
    }

    static void holds(String told, boolean truth) {
        compare(told, "true", String.valueOf(truth));
    }

    /** The answer, or throws. and the name of the very class that was thrown. */
    static String outcome(Call call) {
        try {
            return String.valueOf(call.answer());
        } catch (RuntimeException e) {
            return "throws." + e.getClass().getSimpleName();
        }
    }

    static void compare(String told, String due, String got) {
        calls++;
        if (!due.equals(got)) {
            wrong++;
            System.out.println(told + " answered " + got + ", due is " + due);
        }
    }

    static void end() {
        System.out.println(calls + " calls, " + wrong + " wrong");
        if (wrong != 0 || calls == 0) {
            System.exit(1);
        }
    }
}
