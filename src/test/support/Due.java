/** Counts and prints the answers that are not the ones that are due. */
final class Due {
    private static int wrong = 0;
    private static int asked = 0;

    private Due() {
    }

    static void due(String call, long got, long want) {
        asked++;
        if (got != want) {
            wrong++;
            System.out.println(call + " answered " + got + ", due is " + want);
        }
    }

    static void holds(String what, boolean isSo) {
        due(what, isSo ? 1 : 0, 1);
    }

    static boolean isWrong() {
        return wrong != 0;
    }

    static void end() {
        System.out.println(asked + " answers, " + wrong + " not as due");
        if (isWrong()) {
            System.exit(1);
        }
    }
}
