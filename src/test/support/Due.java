import java.util.function.IntToLongFunction;

/** Counts and prints the answers that are not the ones that are due. */
final class Due {
    static final int MAX = Integer.MAX_VALUE, MIN = Integer.MIN_VALUE;

    private static int wrong = 0;
    private static int asked = 0;
    private static String sentence = "";

    private Due() {
    }

    /** The document's words that the answers from here on are about; printed with each wrong one. */
    static void about(String words) {
        sentence = "[" + words + "] ";
    }

    static void due(String call, long got, long want) {
        asked++;
        if (got != want) {
            wrong++;
            System.out.println(sentence + call + " answered " + got + ", due is " + want);
        }
    }

    static void holds(String what, boolean isSo) {
        due(what, isSo ? 1 : 0, 1);
    }

    /**
     * Asks with the numbers next to a range and far from it; 256 and 65536 away lie those that a
     * byte or a short would take for one of the range.
     */
    static void refusedOutside(String call, int least, int most, long refusal, IntToLongFunction ask) {
        for (int v : outside(least, most)) {
            due(call + " with " + v, ask.applyAsLong(v), refusal);
        }
    }

    static int[] outside(int least, int most) {
        return new int[] {least - 1, most + 1, least - 256, most + 256, least - 65536, most + 65536,
            MIN, MIN + 1, MAX - 1, MAX};
    }

    static int asked() {
        return asked;
    }

    static boolean isWrong() {
        return wrong != 0;
    }

    static void end() {
        System.out.println(asked + " answers, " + wrong + " not as due");
        if (isWrong()) {
            System.exit(1);
        }
    }
}
