/** Counts what is not as due; a test ends with exit code 1 if there was any. */
final class Checks {
    private static int made = 0;
    private static int wrong = 0;
    private static String about = "";

    private Checks() {
    }

    /** Tests what the document says; the sentence is shown ahead of all that is not as due. */
    static void said(String sentence, Runnable test) {
        about = "\"" + sentence + "\": ";
        int before = made;
        test.run();
        isTrue("this has a check", made > before);
        about = "";
    }

    static void due(String call, long got, long want) {
        made++;
        if (got != want) {
            wrong++;
            System.out.println(about + call + " answered " + got + ", due is " + want);
        }
    }

    static void due(String call, String got, String want) {
        made++;
        if (!got.equals(want)) {
            wrong++;
            System.out.println(about + call + " answered " + got + ", due is " + want);
        }
    }

    static void isTrue(String what, boolean holds) {
        made++;
        if (!holds) {
            wrong++;
            System.out.println(about + "not so: " + what);
        }
    }

    static int wrongSoFar() {
        return wrong;
    }

    static void end() {
        System.out.println(made + " checks, " + wrong + " not as due");
        if (wrong != 0) {
            System.exit(1);
        }
    }
}
