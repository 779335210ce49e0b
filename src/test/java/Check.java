import java.util.NoSuchElementException;

/** Counts and prints the answers that are not as due. */
final class Check {
    /** A call of the class under test. */
    interface Call {
        long answer();
    }

    private static int wrong = 0;
    private static int asked = 0;
    private static String test = "";

    private Check() {
    }

    /** Runs a test whose name then stands before all that it reports; what it throws is wrong too. */
    static void test(String name, Runnable body) {
        test = name + ": ";
        try {
            body.run();
        } catch (RuntimeException e) {
            report("threw " + e);
        }
        test = "";
    }

    static void due(String call, long got, long want) {
        asked++;
        if (got != want) {
            report(call + " answered " + got + ", due is " + want);
        }
    }

    static void due(String call, boolean got, boolean want) {
        asked++;
        if (got != want) {
            report(call + " answered " + got + ", due is " + want);
        }
    }

    static void due(String call, String got, String want) {
        asked++;
        if (!got.equals(want)) {
            report(call + " answered " + got + ", due is " + want);
        }
    }

    /** An exception that only resembles the one that is due (a class above or below it) is wrong too. */
    static void dueThrow(String name, Call call, Class<? extends RuntimeException> want) {
        asked++;
        long answer;
        try {
            answer = call.answer();
        } catch (RuntimeException e) {
            if (e.getClass() != want) {
                report(name + " threw " + e.getClass().getName() + ", due is " + want.getName());
            }
            return;
        }
        report(name + " answered " + answer + ", due is " + want.getName());
    }

    static void argument(String name, Call call) {
        dueThrow(name, call, IllegalArgumentException.class);
    }

    static void state(String name, Call call) {
        dueThrow(name, call, IllegalStateException.class);
    }

    static void noElement(String name, Call call) {
        dueThrow(name, call, NoSuchElementException.class);
    }

    static void report(String what) {
        wrong++;
        if (wrong <= 50) {
            System.out.println(test + what);
        }
    }

    static int wrong() {
        return wrong;
    }

    static void end() {
        System.out.println(wrong == 0 ? asked + " answers are as due" : wrong + " of " + asked + " answers are not as due");
        if (wrong != 0) {
            System.exit(1);
        }
    }
}
