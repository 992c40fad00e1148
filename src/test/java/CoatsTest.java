/** Promises 22 to 25: coats and THE BEST ORDER of them. */
public final class CoatsTest {
    private static final int MAX = Due.MAX, MIN = Due.MIN;

    public static void main(String[] args) {
        coats();
        clear();
        noCoats();
        oneCoat();
        leastLateFirst();
        thenLeastEnd();
        thenFirstByNumbers();
        eachWaitsForHandAndCoat();
        badQuestions();
        Due.end();
    }

    private static void best(TailorHouse x, int late, int end, int... order) {
        Due.due("late", x.best(0), late);
        Due.due("end", x.best(1), end);
        for (int i = 0; i < order.length; i++) {
            Due.due("coatAt " + i, x.coatAt(i), order[i]);
        }
        Due.due("coatAt behind the last", x.coatAt(order.length), TailorHouse.NONE);
        Due.due("coatAt -1", x.coatAt(-1), TailorHouse.NONE);
        Due.due("coatAt MAX", x.coatAt(MAX), TailorHouse.NONE);
        Due.due("coatAt MIN", x.coatAt(MIN), TailorHouse.NONE);
    }

    private static void coats() {
        TailorHouse x = new TailorHouse();
        int[] hours = {0, 51, -1, MAX, MIN};
        for (int h : hours) {
            Due.due("coat bad cutter", x.coat(h, 1, 1, 0), TailorHouse.BAD);
            Due.due("coat bad sewer", x.coat(1, h, 1, 0), TailorHouse.BAD);
            Due.due("coat bad finisher", x.coat(1, 1, h, 0), TailorHouse.BAD);
        }
        int[] promises = {-1, 1001, MAX, MIN};
        for (int promised : promises) {
            Due.due("coat bad promise", x.coat(1, 1, 1, promised), TailorHouse.BAD);
        }
        Due.due("none yet", x.count(4), 0);
        Due.due("least", x.coat(1, 1, 1, 0), 0);
        Due.due("greatest", x.coat(50, 50, 50, 1000), 1);
        for (int i = 2; i < 6; i++) {
            Due.due("coat " + i, x.coat(i, i, i, i), i);
        }
        long before = x.digest();
        Due.due("coat FULL", x.coat(1, 1, 1, 1), TailorHouse.FULL);
        Due.due("BAD ahead of FULL", x.coat(1, 1, 1, 1001), TailorHouse.BAD);
        Due.due("nothing changed", x.digest(), before);
    }

    private static void clear() {
        TailorHouse x = Houses.withCoats(new int[][] {{1, 2, 3, 4}, {5, 6, 7, 8}});
        Due.due("clear", x.clear(), 2);
        Due.due("none", x.count(4), 0);
        Due.due("clear again", x.clear(), 0);
        Due.due("numbers begin anew", x.coat(3, 3, 3, 10), 0);
        best(x, 0, 9, 0);
        for (int i = 1; i < 6; i++) {
            x.coat(1, 1, 1, 1);
        }
        Due.due("clear six", x.clear(), 6);
        Due.due("room again", x.coat(1, 1, 1, 1), 0);
    }

    private static void noCoats() {
        best(new TailorHouse(), 0, 0);
        TailorHouse x = Houses.withCoats(new int[][] {{50, 50, 50, 0}});
        x.clear();
        best(x, 0, 0);
    }

    private static void oneCoat() {
        best(Houses.withCoats(new int[][] {{3, 4, 5, 12}}), 0, 12, 0);
        best(Houses.withCoats(new int[][] {{3, 4, 5, 11}}), 1, 12, 0);
        best(Houses.withCoats(new int[][] {{3, 4, 5, 1000}}), 0, 12, 0);
        best(Houses.withCoats(new int[][] {{50, 50, 50, 0}}), 150, 150, 0);
    }

    private static void leastLateFirst() {
        // the other order ends sooner (12), but is late
        best(Houses.withCoats(new int[][] {{1, 1, 9, 20}, {9, 1, 1, 11}}), 0, 20, 1, 0);
        best(Houses.withCoats(new int[][] {{5, 5, 5, 1000}, {5, 5, 5, 0}}), 15, 20, 1, 0);
    }

    private static void thenLeastEnd() {
        best(Houses.withCoats(new int[][] {{9, 1, 1, 1000}, {1, 1, 9, 1000}}), 0, 12, 1, 0);
    }

    private static void thenFirstByNumbers() {
        int[][] like = {{2, 2, 2, 0}, {2, 2, 2, 0}, {2, 2, 2, 0}, {2, 2, 2, 0}, {2, 2, 2, 0}, {2, 2, 2, 0}};
        best(Houses.withCoats(like), 6 + 8 + 10 + 12 + 14 + 16, 16, 0, 1, 2, 3, 4, 5);
        int[][] last = {{2, 2, 2, 99}, {2, 2, 2, 99}, {2, 2, 2, 99}, {2, 2, 2, 99}, {2, 2, 2, 99}, {2, 2, 2, 6}};
        best(Houses.withCoats(last), 0, 16, 5, 0, 1, 2, 3, 4);
    }

    private static void eachWaitsForHandAndCoat() {
        // the sewer is busy, then the finisher is, then the coat is not sewn yet
        best(Houses.withCoats(new int[][] {{1, 10, 1, 0}, {1, 1, 10, 99}}), 12, 22, 0, 1);
        best(Houses.withCoats(new int[][] {{1, 1, 10, 12}, {1, 1, 1, 13}}), 0, 13, 0, 1);
        best(Houses.withCoats(new int[][] {{3, 3, 3, 9}, {10, 1, 1, 15}}), 0, 15, 0, 1);
        best(Houses.withCoats(new int[][] {{3, 3, 3, 9}, {1, 5, 1, 7}, {2, 1, 4, 20}}), 3, 16, 1, 0, 2);
    }

    private static void badQuestions() {
        TailorHouse x = Houses.withCoats(new int[][] {{1, 1, 1, 1}});
        int[] whats = {-1, 2, MAX, MIN};
        for (int what : whats) {
            Due.due("best bad what", x.best(what), TailorHouse.BAD);
        }
    }
}
