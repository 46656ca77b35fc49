import java.util.function.ToLongFunction;

/** What tests share: answers held against what is due, told with the words of the document that they stand on. */
abstract class Edges {
    static final int NONE = -1, UNKNOWN = -101, OUTSIDE = -102, STATE = -103, FULL = -104;
    static final int NO_IS = -1001, NOT_TOLD = -1002, NO_PROFIT = -1000001;

    private static int edges;
    private static int wrong;
    private static String words = "";

    /** From here on it is these words of a promise, or of the terms that it stands on, that are tried. */
    static void edge(int promise, String sentence) {
        edges++;
        words = "promise " + promise + " (" + sentence + ")";
    }

    static void due(String what, long got, long want) {
        if (got != want) {
            wrong++;
            System.out.println(words + ": " + what + " is " + got + ", due is " + want);
        }
    }

    /** A refused call answers so, and changes nothing that is told. */
    static void refused(ShopsAsOne x, String what, ToLongFunction<ShopsAsOne> call, long want) {
        long before = x.digest();
        due(what, call.applyAsLong(x), want);
        due("digest behind " + what, x.digest(), before);
    }

    /** What is refused where least to most is taken: the numbers beside it, far ones, ones that would wrap to it. */
    static int[] beside(int least, int most) {
        return new int[] {least - 1, most + 1, least - 256, most + 256, least + 65536, Integer.MIN_VALUE,
            Integer.MAX_VALUE, Integer.MIN_VALUE + most};
    }

    static void end() {
        System.out.println(edges + " edges, " + wrong + " answers are not as due");
        if (wrong != 0) {
            System.exit(1);
        }
    }
}
