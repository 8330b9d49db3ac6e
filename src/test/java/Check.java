/** Counts and prints the answers that are not the ones that are due. */
final class Check {
    interface Call {
        Object answer();
    }

    private static String topic = "";
    private static int answers = 0;
    private static int wrong = 0;

    private Check() {
    }

    static void topic(String name) {
        topic = name;
    }

    static int answers() {
        return answers;
    }

    static void due(Object want, Object got) {
        answers++;
        if (!want.toString().equals(String.valueOf(got))) {
            complain("answered " + got + ", due is " + want);
        }
    }

    static void refused(Class<? extends RuntimeException> want, Call call) {
        answers++;
        String got = outcome(call);
        String due = "throws " + want.getSimpleName();
        if (!due.equals(got)) {
            complain("answered " + got + ", due is " + due);
        }
    }

    /** Returns the answer as a text, or the exact name of the exception behind "throws". */
    static String outcome(Call call) {
        try {
            return String.valueOf(call.answer());
        } catch (RuntimeException exception) {
            return "throws " + exception.getClass().getSimpleName();
        }
    }

    static void complain(String message) {
        wrong++;
        System.out.println(topic + ", " + callingLine() + ": " + message);
    }

    private static String callingLine() {
        for (StackTraceElement element : new Throwable().getStackTrace()) {
            if (!element.getClassName().equals("Check")) {
                return element.getFileName() + " line " + element.getLineNumber();
            }
        }
        return "unknown line";
    }

    /** Ends the test: with exit code 1 if an answer was wrong or none was looked at. */
    static void finish() {
        System.out.println(answers + " answers, " + wrong + " wrong");
        if (wrong > 0 || answers == 0) {
            System.exit(1);
        }
    }
}
