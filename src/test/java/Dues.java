/** What the tests of the document's sentences share: each answer that is not due is told with its sentence. */
abstract class Dues {
    static final int NONE = -1, UNKNOWN = -1000000001, OUTSIDE = -1000000002, NOT = -1000000003, FULL = -1000000004;
    static final int MIN = Integer.MIN_VALUE, MAX = Integer.MAX_VALUE;

    private static int wrong = 0;
    private static String told = "";

    /** The promise or the term, and its sentence: what is due from here on stands in it. */
    static void says(String where, String sentence) {
        told = where + ": \"" + sentence + "\"";
    }

    static void due(String call, int got, int want) {
        if (got != want) {
            wrong++;
            System.out.println(told + " - " + call + " answered " + got + ", due is " + want);
        }
    }

    static void same(String what, String got, String want) {
        if (!got.equals(want)) {
            wrong++;
            System.out.println(told + " - " + what + ": it is " + got + ", due is " + want);
        }
    }

    static void cuts(String what, Saw x, int... wants) {
        for (int i = 0; i < wants.length; i++) {
            due(what + ", stroke " + (i + 1), x.stroke(1), wants[i]);
        }
    }

    static void close() {
        if (wrong > 0) {
            System.out.println(wrong + " answers are not due");
            System.exit(1);
        }
    }
}
