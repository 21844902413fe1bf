/** What the tests share: they tell of every answer that is not due, and end with exit code 1 then. */
final class Checks {
    interface Call {
        Object answer();
    }

    private static int wrong = 0;

    private Checks() {
    }

    static void due(String what, Object want, Call call) {
        Object got;
        try {
            got = call.answer();
        } catch (RuntimeException thrown) {
            got = thrown;
        }
        if (!want.equals(got)) {
            report(what + " answered " + got + ", due is " + want);
        }
    }

    static void refused(String what, Class<?> want, Call call) {
        try {
            report(what + " answered " + call.answer() + ", due is " + want.getSimpleName());
        } catch (RuntimeException thrown) {
            if (thrown.getClass() != want) {
                report(what + " threw " + thrown + ", due is " + want.getSimpleName());
            } else if (!thrownByTheClass(thrown)) {
                report(what + ": the exception was not thrown by FrequencyOffice itself");
            }
        }
    }

    /** For long texts: only the first line that differs is told. */
    static void same(String what, String want, String got) {
        String[] wanted = want.split("\n");
        String[] given = got.split("\n");
        for (int i = 0; i < Math.max(wanted.length, given.length); i++) {
            String due = i < wanted.length ? wanted[i] : "nothing more";
            String found = i < given.length ? given[i] : "nothing more";
            if (!due.equals(found)) {
                report(what + ": line " + i + " is " + found + ", due is " + due);
                return;
            }
        }
    }

    static boolean thrownByTheClass(Throwable thrown) {
        StackTraceElement[] trace = thrown.getStackTrace();
        return trace.length > 0 && trace[0].getClassName().startsWith("FrequencyOffice");
    }

    static void report(String fault) {
        wrong++;
        System.out.println(fault);
    }

    static boolean anyWrong() {
        return wrong > 0;
    }

    static void end() {
        if (wrong > 0) {
            System.out.println(wrong + " answers are not as due");
            System.exit(1);
        }
    }
}
