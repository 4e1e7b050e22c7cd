/** Compares answers with those that are due, and counts. */
final class Due {
    private static int checked = 0;
    private static int wrong = 0;

    private Due() {
    }

    static void due(String call, long got, long want) {
        checked++;
        if (got != want) {
            wrong++;
            System.out.println(call + " answered " + got + ", due is " + want);
        }
    }

    static void due(String what, boolean holds) {
        due(what, holds ? 1 : 0, 1);
    }

    /** Ends the program: with exit code 1, if an answer was not the one that is due. */
    static void end() {
        System.out.println(checked + " answers looked at, " + wrong + " not as due");
        System.exit(wrong == 0 && checked > 0 ? 0 : 1);
    }
}
