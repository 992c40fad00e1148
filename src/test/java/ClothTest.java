/** Promises 19 to 21: the cloth and THE ORDER of pieces on it. */
public final class ClothTest {
    private static final int MAX = Due.MAX, MIN = Due.MIN;

    public static void main(String[] args) {
        badCloth();
        nothingToLay();
        clothAtFirst();
        oneRowWhileItFits();
        rowsBeginAtChecks();
        firstByNumbers();
        leastEndWins();
        anOrderThatIsNotTheFirst();
        wideBodies();
        sevenPieces();
        Due.end();
    }

    private static void laid(TailorHouse x, int body, int end, int... order) {
        Due.due("laid", x.laid(body), end);
        for (int i = 0; i < order.length; i++) {
            Due.due("laidAt " + i, x.laidAt(body, i), order[i]);
        }
        Due.due("laidAt behind the last", x.laidAt(body, order.length), TailorHouse.NONE);
        Due.due("laidAt MAX", x.laidAt(body, MAX), TailorHouse.NONE);
        Due.due("laidAt -1", x.laidAt(body, -1), TailorHouse.NONE);
        Due.due("laidAt MIN", x.laidAt(body, MIN), TailorHouse.NONE);
    }

    private static void badCloth() {
        TailorHouse x = Houses.withPieces(10, 1, new int[][] {{10, 5}});
        int[] widths = {0, -1, 5001, MAX, MIN};
        for (int w : widths) {
            Due.due("cloth bad w", x.cloth(w, 1), TailorHouse.BAD);
        }
        int[] checks = {0, -1, 501, MAX, MIN};
        for (int p : checks) {
            Due.due("cloth bad p", x.cloth(5, p), TailorHouse.BAD);
        }
        laid(x, 0, 5, 0);
        Due.due("least cloth", x.cloth(1, 1), 1);
        Due.due("too narrow", x.laid(0), TailorHouse.NONE);
        Due.due("greatest cloth", x.cloth(5000, 500), 1);
        laid(x, 0, 5, 0);
    }

    private static void nothingToLay() {
        TailorHouse x = new TailorHouse();
        int[] bodies = {-1, 6, MAX, MIN};
        for (int body : bodies) {
            Due.due("laid bad body", x.laid(body), TailorHouse.BAD);
            Due.due("laidAt bad body", x.laidAt(body, 0), TailorHouse.BAD);
        }
        Due.due("laid NO", x.laid(0), TailorHouse.NO);
        Due.due("laidAt NO", x.laidAt(5, 0), TailorHouse.NO);
        Due.due("laidAt NO, not so many", x.laidAt(5, 3), TailorHouse.NO);
        Houses.addPiece(x, 1501, 4);
        Due.due("laid NONE", x.laid(0), TailorHouse.NONE);
        Due.due("laidAt NONE", x.laidAt(0, 0), TailorHouse.NONE);
        Due.due("laid bad body", x.laid(6), TailorHouse.BAD);
        Due.due("laidAt bad body", x.laidAt(6, 0), TailorHouse.BAD);
    }

    private static void clothAtFirst() {
        TailorHouse x = new TailorHouse();
        Houses.addPiece(x, 1500, 51);
        laid(x, 0, 51, 0);
        Houses.addPiece(x, 1500, 101);
        laid(x, 0, 201, 0, 1);
    }

    private static void oneRowWhileItFits() {
        TailorHouse x = Houses.withPieces(100, 7, new int[][] {{40, 5}, {-60, -20}});
        laid(x, 0, 20, 0, 1);
        x.cloth(99, 7);
        laid(x, 0, 26, 1, 0);
        TailorHouse thin = Houses.withPieces(3, 5, new int[][] {{0, 0}, {0, 3}, {2, 0}});
        laid(thin, 0, 6, 0, 1, 2);
    }

    private static void rowsBeginAtChecks() {
        TailorHouse x = Houses.withPieces(10, 50, new int[][] {{10, 50}, {10, 50}});
        laid(x, 0, 100, 0, 1);
        x.cloth(10, 49);
        laid(x, 0, 148, 0, 1);
        x.cloth(10, 1);
        laid(x, 0, 100, 0, 1);
        x.cloth(10, 500);
        laid(x, 0, 550, 0, 1);
    }

    private static void firstByNumbers() {
        TailorHouse x = Houses.withPieces(100, 10, new int[][] {{50, 10}, {50, 10}, {50, 10}, {50, 10}});
        laid(x, 0, 20, 0, 1, 2, 3);
    }

    private static void leastEndWins() {
        TailorHouse x = Houses.withPieces(10, 10, new int[][] {{10, 11}, {10, 20}});
        laid(x, 0, 31, 1, 0);
        TailorHouse three = Houses.withPieces(10, 10, new int[][] {{10, 19}, {10, 11}, {10, 15}});
        laid(three, 0, 51, 0, 2, 1);
    }

    private static void anOrderThatIsNotTheFirst() {
        TailorHouse x = Houses.withPieces(10, 1, new int[][] {{5, 9}, {5, 1}, {5, 9}, {5, 1}});
        laid(x, 0, 10, 0, 2, 1, 3);
        TailorHouse y = Houses.withPieces(10, 1, new int[][] {{6, 3}, {6, 3}, {4, 3}, {4, 3}});
        laid(y, 0, 6, 0, 2, 1, 3);
        TailorHouse back = Houses.withPieces(10, 10, new int[][] {{6, 1}, {6, 10}, {4, 10}, {4, 1}});
        laid(back, 0, 11, 1, 2, 0, 3);
    }

    private static void wideBodies() {
        TailorHouse x = new TailorHouse();
        x.fixed(0, 0);
        x.by(0, 0, 1, 1, 0);
        x.by(0, 0, 2, 1, 1);
        x.piece(0, 1, 2, -1);
        x.piece(0, 0, 2, -1);
        x.tell(0, 0, 0, 0, 100);
        x.tell(0, 1, 0, 0, 101);
        x.cloth(100, 150);
        laid(x, 0, 500, 0, 1);
        Due.due("another body is too wide", x.laid(1), TailorHouse.NONE);
        Due.due("none for it", x.laidAt(1, 0), TailorHouse.NONE);
        laid(x, 2, 1, 0, 1);
        x.more(0, 0);
        laid(x, 0, 500, 0, 1);
    }

    private static void sevenPieces() {
        int[][] rooms = {{70, 12}, {30, 45}, {70, 47}, {30, 11}, {50, 30}, {50, 29}, {100, 8}};
        TailorHouse x = Houses.withPieces(100, 10, rooms);
        laid(x, 0, 102, 1, 2, 4, 5, 6, 0, 3);
        TailorHouse like = Houses.withPieces(10, 10, new int[][] {
            {9, 9}, {9, 9}, {9, 9}, {9, 9}, {9, 9}, {9, 9}, {9, 9}});
        laid(like, 0, 69, 0, 1, 2, 3, 4, 5, 6);
        TailorHouse last = Houses.withPieces(10, 10, new int[][] {
            {9, 9}, {9, 8}, {9, 7}, {9, 6}, {9, 5}, {9, 4}, {9, 3}});
        laid(last, 0, 63, 0, 1, 2, 3, 4, 5, 6);
        TailorHouse first = Houses.withPieces(10, 10, new int[][] {
            {9, 1}, {9, 8}, {9, 7}, {9, 6}, {9, 5}, {9, 4}, {9, 3}});
        laid(first, 0, 61, 1, 2, 3, 4, 5, 6, 0);
    }
}
