/** Promises 12 to 17: pieces, lengths, areas, seams, gaps. */
public final class PiecesTest {
    private static final int MAX = Due.MAX, MIN = Due.MIN;

    public static void main(String[] args) {
        pieces();
        more();
        lengths();
        areas();
        seams();
        gaps();
        seamsFollowTheirPieces();
        Due.end();
    }

    private static void pieces() {
        TailorHouse x = Houses.withRectangle();
        int[] bad = {-2, 4, 20, MAX, MIN};
        for (int p : bad) {
            Due.due("piece bad a", x.piece(p, 0, 0, 0), TailorHouse.BAD);
            Due.due("piece bad b", x.piece(0, p, 0, 0), TailorHouse.BAD);
            Due.due("piece bad c", x.piece(0, 0, p, 0), TailorHouse.BAD);
            Due.due("piece bad d", x.piece(0, 0, 0, p), TailorHouse.BAD);
        }
        Due.due("a NONE", x.piece(-1, 0, 0, 0), TailorHouse.BAD);
        Due.due("b NONE", x.piece(0, -1, 0, 0), TailorHouse.BAD);
        Due.due("c NONE", x.piece(0, 0, -1, -1), TailorHouse.BAD);
        Due.due("none yet", x.count(2), 0);
        Due.due("piece 0", x.piece(0, 1, 2, 3), 0);
        Due.due("piece 1", x.piece(0, 1, 2, TailorHouse.NONE), 1);
        Due.due("four sides", x.length(0, 0, 3), 400);
        Due.due("three sides", x.length(0, 1, 3), TailorHouse.BAD);
        for (int i = 2; i < 7; i++) {
            Due.due("piece " + i, x.piece(3, 3, 3, 3), i);
        }
        long before = x.digest();
        Due.due("piece FULL", x.piece(0, 1, 2, 3), TailorHouse.FULL);
        Due.due("BAD ahead of FULL", x.piece(0, 1, 2, 4), TailorHouse.BAD);
        Due.due("nothing changed", x.digest(), before);
    }

    private static void more() {
        TailorHouse x = Houses.withRectangle();
        Due.due("more of nothing", x.more(0, 0), TailorHouse.BAD);
        x.piece(0, 1, 2, -1);
        x.piece(0, 1, 2, 3);
        for (int many = 4; many <= 8; many++) {
            Due.due("more", x.more(0, 3), many);
        }
        Due.due("more FULL", x.more(0, 3), TailorHouse.FULL);
        Due.due("BAD ahead of FULL", x.more(0, 4), TailorHouse.BAD);
        Due.due("the piece behind is as it was", x.area(0, 1), 2400);
        Due.due("more 5", x.more(1, 0), 5);
        int[] badPieces = {-1, 2, 7, MAX, MIN};
        for (int piece : badPieces) {
            Due.due("more bad piece", x.more(piece, 0), TailorHouse.BAD);
        }
        int[] badPoints = {-1, 4, 20, MAX, MIN};
        for (int p : badPoints) {
            Due.due("more bad point", x.more(1, p), TailorHouse.BAD);
        }
    }

    private static void lengths() {
        TailorHouse x = Houses.withRectangle();
        x.by(0, 0, 1, 1, 1);
        x.fixed(1, 1);
        x.tell(0, 2, 0, 0, 7);
        x.piece(0, 1, 2, -1);
        x.piece(0, 4, 5, 3);
        Due.due("side 0", x.length(0, 0, 0), 300);
        Due.due("side 1", x.length(0, 0, 1), 400);
        Due.due("the last to the first", x.length(0, 0, 2), 500);
        Due.due("for a body", x.length(2, 1, 0), 70);
        Due.due("for another", x.length(1, 1, 0), 0);
        Due.due("root of 200 cut", x.length(1, 1, 1), 14);
        Due.due("root of 3700 cut", x.length(2, 1, 1), 60);
        x.tell(0, 3, 0, 0, 3);
        x.tell(0, 4, 0, 0, 5);
        Due.due("root of 500 cut", x.length(3, 1, 1), 22);
        Due.due("root of 1700 cut, an odd one", x.length(4, 1, 1), 41);
        Due.due("root of 152200 cut", x.length(4, 1, 2), 390);
        int[] bodies = {-1, 6, MAX, MIN};
        for (int body : bodies) {
            Due.due("length bad body", x.length(body, 0, 0), TailorHouse.BAD);
        }
        int[] pieces = {-1, 2, 7, MAX, MIN};
        for (int piece : pieces) {
            Due.due("length bad piece", x.length(0, piece, 0), TailorHouse.BAD);
        }
        int[] sides = {-1, 3, 8, MAX, MIN};
        for (int i : sides) {
            Due.due("length bad side", x.length(0, 0, i), TailorHouse.BAD);
        }
        x.more(0, 3);
        Due.due("the side that was last", x.length(0, 0, 2), 300);
        Due.due("the last side now", x.length(0, 0, 3), 400);
    }

    private static void areas() {
        TailorHouse x = Houses.withRectangle();
        x.by(0, 1, 20, 1, 0);
        x.by(0, 1, 20, 1, 1);
        x.tell(0, 3, 1, 0, 3000);
        x.piece(0, 1, 2, 3);
        x.piece(3, 2, 1, 0);
        x.piece(0, 1, 2, -1);
        x.piece(0, 2, 1, 3);
        x.piece(0, 4, 5, -1);
        Due.due("rectangle", x.area(0, 0), 2400);
        Due.due("the other way round", x.area(0, 1), 2400);
        Due.due("triangle", x.area(0, 2), 1200);
        Due.due("crossed", x.area(0, 3), 0);
        Due.due("great", x.area(3, 4), 3600000000L);
        Due.due("for another body", x.area(2, 4), 0);
        int[] bodies = {-1, 6, MAX, MIN};
        for (int body : bodies) {
            Due.due("area bad body", x.area(body, 0), TailorHouse.BAD);
        }
        int[] pieces = {-1, 5, 7, MAX, MIN};
        for (int piece : pieces) {
            Due.due("area bad piece", x.area(0, piece), TailorHouse.BAD);
        }
    }

    private static void seams() {
        TailorHouse x = Houses.withRectangle();
        Due.due("seam of nothing", x.seam(0, 0, 0, 0), TailorHouse.BAD);
        x.piece(0, 1, 2, 3);
        x.piece(0, 1, 2, -1);
        int[] badPieces = {-1, 2, 7, MAX, MIN};
        for (int piece : badPieces) {
            Due.due("seam bad piece", x.seam(piece, 0, 0, 0), TailorHouse.BAD);
            Due.due("seam bad other", x.seam(0, 0, piece, 0), TailorHouse.BAD);
        }
        int[] badSides = {-1, 4, 8, MAX, MIN};
        for (int side : badSides) {
            Due.due("seam bad i", x.seam(0, side, 0, 0), TailorHouse.BAD);
            Due.due("seam bad j", x.seam(0, 0, 0, side), TailorHouse.BAD);
        }
        Due.due("side of the other one", x.seam(1, 3, 0, 3), TailorHouse.BAD);
        Due.due("side of the first one", x.seam(0, 3, 1, 3), TailorHouse.BAD);
        Due.due("none yet", x.count(3), 0);
        Due.due("seam 0", x.seam(0, 3, 1, 2), 0);
        Due.due("seam 1, a side with itself", x.seam(0, 0, 0, 0), 1);
        for (int i = 2; i < 10; i++) {
            Due.due("seam " + i, x.seam(0, 0, 1, 0), i);
        }
        long before = x.digest();
        Due.due("seam FULL", x.seam(0, 0, 1, 0), TailorHouse.FULL);
        Due.due("BAD ahead of FULL", x.seam(0, 0, 1, 3), TailorHouse.BAD);
        Due.due("nothing changed", x.digest(), before);
        Due.due("10 seams", x.count(3), 10);
        x.more(0, 0);
        Due.due("the first of 10 has a gap", x.gaps(0, 0), 0);
        Due.due("the 10 agree", x.gaps(0, 100), TailorHouse.NONE);
    }

    private static void gaps() {
        TailorHouse x = Houses.withRectangle();
        Due.due("no seams", x.gaps(0, 0), TailorHouse.NONE);
        x.by(1, 2, 1, 1, 0);
        x.piece(0, 1, 2, 3);
        x.piece(0, 4, 2, 3);
        x.seam(0, 0, 0, 2);
        x.seam(0, 0, 1, 0);
        x.seam(0, 0, 0, 1);
        Due.due("within 0, measure 0", x.gaps(0, 0), 2);
        Due.due("within 99", x.gaps(0, 99), 2);
        Due.due("within 100, all agree", x.gaps(0, 100), TailorHouse.NONE);
        x.tell(0, 1, 2, 0, 5);
        x.tell(0, 4, 2, 0, 11);
        Due.due("5 longer, within 49", x.gaps(1, 49), 1);
        Due.due("5 longer, within 50", x.gaps(1, 50), 2);
        Due.due("5 longer, within 100", x.gaps(1, 100), TailorHouse.NONE);
        Due.due("11 longer, within 100", x.gaps(4, 100), 1);
        Due.due("other bodies", x.gaps(5, 100), TailorHouse.NONE);
        int[] bodies = {-1, 6, MAX, MIN};
        for (int body : bodies) {
            Due.due("gaps bad body", x.gaps(body, 0), TailorHouse.BAD);
        }
        int[] ts = {-1, 101, MAX, MIN};
        for (int t : ts) {
            Due.due("gaps bad t", x.gaps(0, t), TailorHouse.BAD);
        }
    }

    private static void seamsFollowTheirPieces() {
        TailorHouse x = Houses.withRectangle();
        x.piece(0, 1, 2, -1);
        x.piece(0, 2, 1, -1);
        x.seam(0, 2, 1, 0);
        Due.due("both 500", x.gaps(0, 0), TailorHouse.NONE);
        x.more(0, 3);
        Due.due("300 and 500", x.gaps(0, 0), 0);
    }
}
