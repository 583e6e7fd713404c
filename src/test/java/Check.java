/** Counts and prints the answers that are not the ones that are due. */
final class Check {
    interface Call {
        void run();
    }

    private static int checks = 0;
    private static int wrong = 0;
    private static String heading = "";

    private Check() {
    }

    /** The sentence of the document that the next checks are about. */
    static void under(String sentence) {
        heading = sentence + ": ";
    }

    static void same(String what, long due, long answer) {
        checks++;
        if (due != answer) {
            tell(what + " answered " + answer + ", due is " + due);
        }
    }

    static void sameText(String what, String due, String answer) {
        checks++;
        if (!due.equals(answer)) {
            tell(what + " answered " + answer + ", due is " + due);
        }
    }

    static void sameDouble(String what, double due, double answer) {
        checks++;
        if (Double.compare(due, answer) != 0) {
            tell(what + " answered " + answer + ", due is " + due);
        }
    }

    static void sameFloat(String what, float due, float answer) {
        checks++;
        if (Float.compare(due, answer) != 0) {
            tell(what + " answered " + answer + ", due is " + due);
        }
    }

    static void noIndex(String what, Call call) {
        fails(what, IndexOutOfBoundsException.class, call);
    }

    static void badArgument(String what, Call call) {
        fails(what, IllegalArgumentException.class, call);
    }

    static void badState(String what, Call call) {
        fails(what, IllegalStateException.class, call);
    }

    private static void fails(String what, Class<?> due, Call call) {
        checks++;
        Class<?> thrown = null;
        try {
            call.run();
        } catch (RuntimeException e) {
            thrown = e.getClass();
        }
        if (thrown != due) {
            tell(what + " threw " + thrown + ", due is " + due);
        }
    }

    private static void tell(String line) {
        wrong++;
        if (wrong <= 40) {
            System.out.println(heading + line);
        }
    }

    /** The last call of each test. */
    static void end() {
        System.out.println(checks + " checks, " + wrong + " wrong");
        if (wrong != 0 || checks == 0) {
            System.exit(1);
        }
    }
}
