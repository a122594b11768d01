/** Compares answers with what is due, and ends a test with exit code 1 if one was wrong. */
final class Due {
    private static int wrong = 0;
    private static int asked = 0;
    private static String subject = "";

    private Due() {
    }

    /** What the next answers are about; it is told with each that is wrong. */
    static void about(String words) {
        subject = words;
    }

    static void due(String call, long got, long want) {
        asked++;
        if (got != want) {
            wrong++;
            String where = subject.isEmpty() ? "" : "[" + subject + "] ";
            System.out.println(where + call + " answered " + got + ", due is " + want);
        }
    }

    static boolean anyWrong() {
        return wrong != 0;
    }

    static void end() {
        System.out.println(wrong == 0 ? asked + " answers are as due" : wrong + " of " + asked + " answers are not as due");
        if (wrong != 0) {
            System.exit(1);
        }
    }
}
