/** The document's sentences on the cloth and THE ORDER that name an edge: a test for each. */
public final class EdgesOfClothTest {
    private static final int BAD = TailorHouse.BAD, NO = TailorHouse.NO, NONE = TailorHouse.NONE;

    public static void main(String[] args) {
        clothFrom1To5000();
        checksFrom1To500();
        atFirst();
        roomOfAPiece();
        oneAtLeast();
        neverTurned();
        fitsInW();
        neverBackToARow();
        belowTheTallest();
        rowsBeginAtChecks();
        endOfTheTallest();
        leastEnd();
        firstByNumbers();
        firstByNumbersOfTheLeast();
        widerThanW();
        forABody();
        sevenPieces();
        farthestPieces();
        noPieces();
        notSoMany();
        bodies();
        Due.end();
    }

    private static TailorHouse house(int w, int p, int[]... rooms) {
        return Houses.withPieces(w, p, rooms);
    }

    private static int[] room(int width, int height) {
        return new int[] {width, height};
    }

    private static void laid(TailorHouse x, int body, int end, int... order) {
        Due.due("laid", x.laid(body), end);
        for (int i = 0; i < order.length; i++) {
            Due.due("laidAt " + i, x.laidAt(body, i), order[i]);
        }
    }

    private static void clothFrom1To5000() {
        Due.about("CLOTH is w wide (1 .. 5000)");
        TailorHouse x = house(100, 10, room(100, 5), room(100, 5));
        Due.refusedOutside("cloth w", 1, 5000, BAD, w -> x.cloth(w, 77));
        laid(x, 0, 15, 0, 1);
        Due.due("1 wide", x.cloth(1, 77), 1);
        laid(x, 0, NONE);
        Due.due("5000 wide", x.cloth(5000, 77), 1);
        laid(x, 0, 5, 0, 1);
        TailorHouse wide = house(5000, 1, room(5000, 1));
        laid(wide, 0, 1, 0);
        wide.cloth(4999, 1);
        laid(wide, 0, NONE);
        laid(house(1, 1, room(1, 9)), 0, 9, 0);
        laid(house(1, 1, room(2, 9)), 0, NONE);
    }

    private static void checksFrom1To500() {
        Due.about("checks each p (1 .. 500) down");
        TailorHouse x = house(100, 10, room(100, 5), room(100, 5));
        Due.refusedOutside("cloth p", 1, 500, BAD, p -> x.cloth(7, p));
        laid(x, 0, 15, 0, 1);
        Due.due("checks of 1", x.cloth(100, 1), 1);
        laid(x, 0, 10, 0, 1);
        Due.due("checks of 500", x.cloth(100, 500), 1);
        laid(x, 0, 505, 0, 1);
    }

    private static void atFirst() {
        Due.about("(At first 1500 wide, checks 50.)");
        TailorHouse x = new TailorHouse();
        Houses.addPiece(x, 1500, 1);
        laid(x, 0, 1, 0);
        Houses.addPiece(x, 1, 1);
        laid(x, 0, 51, 0, 1);
        Houses.addPiece(x, 1499, 50);
        laid(x, 0, 51, 1, 2, 0);
        Houses.addPiece(x, 1501, 1);
        laid(x, 0, NONE);
        TailorHouse refused = new TailorHouse();
        refused.cloth(0, 7);
        refused.cloth(7, 501);
        Houses.addPiece(refused, 1500, 1);
        Houses.addPiece(refused, 1500, 1);
        laid(refused, 0, 51, 0, 1);
    }

    private static void roomOfAPiece() {
        Due.about("the room of its greatest x less its least, and y likewise");
        TailorHouse x = new TailorHouse();
        x.fixed(-30, 900);
        x.fixed(40, 920);
        x.fixed(0, 1000);
        x.fixed(-31, 895);
        x.fixed(41, 1001);
        x.piece(0, 1, 2, NONE);
        x.cloth(70, 1);
        laid(x, 0, 100, 0);
        x.cloth(69, 1);
        laid(x, 0, NONE);
        x.cloth(71, 1);
        x.more(0, 3);
        laid(x, 0, 105, 0);
        x.more(0, 4);
        laid(x, 0, NONE);
        x.cloth(72, 1);
        laid(x, 0, 106, 0);
    }

    private static void oneAtLeast() {
        Due.about("(1 at least each)");
        laid(house(1, 1, room(0, 0)), 0, 1, 0);
        laid(house(1, 1, room(0, 0), room(0, 0)), 0, 2, 0, 1);
        laid(house(1, 500, room(0, 0), room(0, 0)), 0, 501, 0, 1);
        laid(house(2, 500, room(0, 0), room(0, 0)), 0, 1, 0, 1);
        laid(house(10, 500, room(0, 9), room(9, 0)), 0, 9, 0, 1);
        laid(house(9, 500, room(0, 9), room(9, 0)), 0, 501, 0, 1);
        laid(house(2, 500, room(1, 1), room(1, 1)), 0, 1, 0, 1);
        laid(house(2, 1, room(2, 2)), 0, 2, 0);
    }

    private static void neverTurned() {
        Due.about("never turned");
        laid(house(3, 1, room(4, 3)), 0, NONE);
        laid(house(3, 1, room(3, 4)), 0, 4, 0);
        laid(house(8, 1, room(4, 9), room(4, 9), room(1, 8)), 0, 17, 0, 1, 2);
    }

    private static void fitsInW() {
        Due.about("right of the one ahead in the row that is, if it fits in w, else it begins a new row");
        laid(house(100, 10, room(60, 3), room(40, 2)), 0, 3, 0, 1);
        laid(house(99, 10, room(60, 3), room(40, 2)), 0, 12, 0, 1);
        laid(house(30, 10, room(10, 3), room(10, 3), room(10, 3)), 0, 3, 0, 1, 2);
        laid(house(29, 10, room(10, 3), room(10, 3), room(10, 3)), 0, 13, 0, 1, 2);
        laid(house(19, 10, room(10, 3), room(10, 3), room(10, 3)), 0, 23, 0, 1, 2);
    }

    private static void neverBackToARow() {
        Due.about("right of the one ahead in the row that is: no row ahead of it");
        laid(house(10, 1, room(6, 3), room(6, 3), room(4, 3), room(4, 3)), 0, 6, 0, 2, 1, 3);
        // only in 0, 1, 2 would the last go back to the first row's free room
        laid(house(10, 1, room(6, 5), room(10, 5), room(4, 5)), 0, 10, 0, 2, 1);
    }

    private static void belowTheTallest() {
        Due.about("a new row (below the tallest of the row ahead)");
        laid(house(10, 1, room(5, 9), room(5, 2), room(10, 4)), 0, 13, 0, 1, 2);
        laid(house(10, 1, room(5, 2), room(5, 9), room(10, 4)), 0, 13, 0, 1, 2);
        // the third row lies below the second alone
        laid(house(10, 1, room(10, 9), room(10, 2), room(10, 4)), 0, 15, 0, 1, 2);
    }

    private static void rowsBeginAtChecks() {
        Due.about("each row begins at a whole number of checks (rounded up)");
        int[][] dues = {{1, 11}, {9, 11}, {10, 11}, {11, 21}, {19, 21}, {20, 21}, {21, 31}};
        for (int[] due : dues) {
            laid(house(10, 10, room(10, due[0]), room(10, 1)), 0, due[1], 0, 1);
        }
        laid(house(10, 10, room(10, 20), room(10, 20)), 0, 40, 0, 1);
        laid(house(10, 10, room(10, 21), room(10, 21)), 0, 51, 0, 1);
        laid(house(10, 10, room(10, 19), room(10, 19)), 0, 39, 0, 1);
        laid(house(10, 500, room(10, 500), room(10, 500)), 0, 1000, 0, 1);
        laid(house(10, 500, room(10, 501), room(10, 501)), 0, 1501, 0, 1);
    }

    private static void endOfTheTallest() {
        Due.about("Its end: where the tallest of the last row ends");
        laid(house(10, 7, room(4, 5), room(3, 6), room(3, 2)), 0, 6, 0, 1, 2);
        laid(house(10, 7, room(10, 7), room(5, 1), room(5, 1)), 0, 8, 0, 1, 2);
        laid(house(10, 500, room(10, 3)), 0, 3, 0);
    }

    private static void leastEnd() {
        Due.about("THE ORDER: the least end");
        laid(house(10, 10, room(10, 11), room(10, 20)), 0, 31, 1, 0);
        laid(house(10, 10, room(10, 20), room(10, 11)), 0, 31, 0, 1);
        laid(house(10, 1, room(5, 1), room(10, 9), room(5, 1)), 0, 10, 0, 2, 1);
        laid(house(10, 10, room(10, 1), room(10, 2), room(10, 3)), 0, 21, 1, 2, 0);
    }

    private static void firstByNumbers() {
        Due.about("of like ones the first by numbers");
        laid(house(10, 5, room(10, 5), room(10, 5), room(10, 5)), 0, 15, 0, 1, 2);
        laid(house(5000, 5, room(1, 5), room(2, 4), room(3, 3)), 0, 5, 0, 1, 2);
        TailorHouse like = house(10, 5, room(5, 5), room(5, 5), room(5, 5), room(5, 5),
            room(5, 5), room(5, 5), room(5, 5));
        laid(like, 0, 20, 0, 1, 2, 3, 4, 5, 6);
    }

    private static void firstByNumbersOfTheLeast() {
        Due.about("the least end, of like ones the first by numbers: no first one is least");
        // the last row must be that of piece 1; of those the first is 0, 2, 1
        laid(house(10, 10, room(10, 10), room(10, 1), room(10, 10)), 0, 21, 0, 2, 1);
        laid(house(10, 10, room(10, 1), room(10, 9), room(10, 9)), 0, 21, 1, 2, 0);
        laid(house(10, 10, room(10, 1), room(10, 1), room(10, 9)), 0, 21, 0, 2, 1);
    }

    private static void widerThanW() {
        Due.about("None, if a PIECE is wider than w");
        for (int wide = 0; wide < 3; wide++) {
            int[][] rooms = {room(5, 5), room(5, 5), room(5, 5)};
            rooms[wide] = room(10, 5);
            TailorHouse x = Houses.withPieces(10, 1, rooms);
            Due.holds("just as wide", x.laid(0) == 10);
            x.cloth(9, 1);
            Due.due("wider, piece " + wide, x.laid(0), NONE);
            for (int i = -1; i < 4; i++) {
                Due.due("laidAt " + i, x.laidAt(0, i), NONE);
            }
            x.cloth(10, 1);
            Due.due("wide enough again", x.laid(0), 10);
        }
        laid(house(10, 1, room(10, 5000)), 0, 5000, 0);
    }

    private static void forABody() {
        Due.about("The end by THE ORDER for a BODY");
        TailorHouse x = new TailorHouse();
        x.fixed(0, 0);
        x.by(0, 0, 1, 1, 0);
        x.by(0, 1, 1, 1, 1);
        x.piece(0, 0, 2, NONE);
        x.piece(0, 1, 1, NONE);
        for (int body = 0; body < 6; body++) {
            x.tell(0, body, 0, 0, 97 + body);
            x.tell(0, body, 1, 0, 5 - body);
        }
        x.cloth(100, 3);
        laid(x, 0, 5, 0, 1);
        laid(x, 1, 4, 0, 1);
        laid(x, 2, 3, 0, 1);
        laid(x, 3, 4, 0, 1);
        laid(x, 4, NONE);
        laid(x, 5, NONE);
        x.habit(0, 0, 1);
        Due.due("piece 1 is 100 wide, a habit taken off", x.laid(4), 4);
        Due.due("101 wide still", x.laid(5), NONE);
    }

    private static void sevenPieces() {
        Due.about("an ORDER of all PIECES: seven");
        int[][] rooms = new int[7][];
        for (int i = 0; i < 7; i++) {
            rooms[i] = room(0, 0);
        }
        TailorHouse x = Houses.withPieces(7, 500, rooms);
        laid(x, 0, 1, 0, 1, 2, 3, 4, 5, 6);
        x.cloth(6, 500);
        laid(x, 0, 501, 0, 1, 2, 3, 4, 5, 6);
        x.cloth(1, 500);
        laid(x, 0, 3001, 0, 1, 2, 3, 4, 5, 6);
        x.cloth(1, 1);
        laid(x, 0, 7, 0, 1, 2, 3, 4, 5, 6);
        rooms[0] = room(10, 1);
        for (int i = 1; i < 7; i++) {
            rooms[i] = room(10, 10);
        }
        laid(Houses.withPieces(10, 10, rooms), 0, 61, 1, 2, 3, 4, 5, 6, 0);
        rooms[6] = room(10, 2);
        laid(Houses.withPieces(10, 10, rooms), 0, 61, 1, 2, 3, 4, 5, 6, 0);
    }

    private static void farthestPieces() {
        Due.about("a PIECE takes the room: the tallest ones");
        TailorHouse x = Houses.withLongMeasure();
        x.habit(0, 0, -50);
        for (int p = 0; p < 19; p++) {
            x.by(p, 0, 20, 1, 1);
        }
        for (int i = 0; i < 7; i++) {
            x.piece(0, 19, 0, NONE);
        }
        x.cloth(1, 500);
        laid(x, 0, 7 * 19 * 61000, 0, 1, 2, 3, 4, 5, 6);
        x.cloth(7, 500);
        laid(x, 0, 19 * 61000, 0, 1, 2, 3, 4, 5, 6);
    }

    private static void noPieces() {
        Due.about("NO: there are no PIECES");
        TailorHouse x = Houses.withRectangle();
        for (int body = 0; body < 6; body++) {
            Due.due("laid", x.laid(body), NO);
            Due.due("laidAt 0", x.laidAt(body, 0), NO);
            Due.due("laidAt 9", x.laidAt(body, 9), NO);
        }
        x.piece(0, 0, 4, NONE);
        Due.due("a refused piece is none", x.laid(0), NO);
        x.piece(0, 1, 2, NONE);
        laid(x, 0, 40, 0);
    }

    private static void notSoMany() {
        Due.about("The i-th PIECE of it. NONE: not so many");
        TailorHouse x = new TailorHouse();
        for (int many = 1; many <= 7; many++) {
            Houses.addPiece(x, 1, 1);
            Due.due("the last of " + many, x.laidAt(0, many - 1), many - 1);
            Due.due("behind the last of " + many, x.laidAt(0, many), NONE);
        }
        Due.refusedOutside("laidAt", 0, 6, NONE, i -> x.laidAt(5, i));
    }

    private static void bodies() {
        Due.about("laid, laidAt: BAD");
        TailorHouse x = house(10, 1, room(10, 5));
        Due.refusedOutside("laid", 0, 5, BAD, x::laid);
        Due.refusedOutside("laidAt", 0, 5, BAD, body -> x.laidAt(body, 0));
        for (int body = 0; body < 6; body++) {
            laid(x, body, 5, 0);
        }
    }
}
