/** Compares answers with those that are due, and counts the wrong ones. */
final class Check {
    interface Call {
        Object make();
    }

    private static int wrong = 0;

    private Check() {
    }

    static void due(String what, Object got, Object want) {
        if (!want.equals(got)) {
            tell(what + " answered " + got + ", due is " + want);
        }
    }

    static void thrown(String what, Class<? extends RuntimeException> want, Call call) {
        String got;
        try {
            got = "answered " + call.make();
        } catch (RuntimeException e) {
            if (e.getClass() == want) {
                return;
            }
            got = "threw " + e;
        }
        tell(what + " " + got + ", due is " + want.getSimpleName());
    }

    /** The answer of a call, or the name of what it throws. */
    static String answer(Call call) {
        try {
            return String.valueOf(call.make());
        } catch (RuntimeException e) {
            return e.getClass().getName();
        }
    }

    static void tell(String fault) {
        wrong++;
        System.out.println(fault);
    }

    static void end() {
        System.out.println(wrong == 0 ? "all answers are as due" : wrong + " answers are not as due");
        if (wrong > 0) {
            System.exit(1);
        }
    }
}
