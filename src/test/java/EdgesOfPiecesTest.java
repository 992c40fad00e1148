/** The document's sentences on pieces, lengths, areas and seams that name an edge: a test for each. */
public final class EdgesOfPiecesTest {
    private static final int BAD = TailorHouse.BAD, FULL = TailorHouse.FULL, NONE = TailorHouse.NONE;

    public static void main(String[] args) {
        sevenPieces();
        pieceOfThreeOrFour();
        pieceRanges();
        moreUpToEight();
        moreDoesNotSpill();
        moreRanges();
        lengthFromTheLastToTheFirst();
        lengthOfNothing();
        lengthIsTheGreatestRoot();
        lengthBeyondAnInt();
        lengthRanges();
        areaHasNoSign();
        areaOfNothing();
        areaIsTwiceIt();
        areaBeyondAnInt();
        areaRanges();
        tenSeams();
        seamOfTheSame();
        seamRanges();
        seamOnASideToCome();
        agreeWithinT();
        agreeBothWays();
        firstGap();
        lastGap();
        noSeams();
        gapsRanges();
        Due.end();
    }

    private static void sevenPieces() {
        Due.about("PIECES 0 .. 6, as they come; FULL: 7");
        TailorHouse x = Houses.withRectangle();
        for (int i = 0; i < 7; i++) {
            Due.due("piece " + i, x.piece(0, i % 4, 2, i % 2 == 0 ? NONE : 3), i);
        }
        Due.due("an eighth, of four", x.piece(0, 1, 2, 3), FULL);
        Due.due("an eighth, of three", x.piece(0, 1, 2, NONE), FULL);
        Due.due("BAD ahead of FULL", x.piece(0, 1, 2, 4), BAD);
        Due.due("7 pieces", x.count(2), 7);
        Due.due("piece 6 is there", x.length(0, 6, 2), 500);
        Due.due("no piece 7", x.length(0, 7, 0), BAD);
        Due.due("piece 6 takes a point more", x.more(6, 3), 4);
    }

    private static void pieceOfThreeOrFour() {
        Due.about("A PIECE of four POINTS, or of three (d NONE)");
        TailorHouse x = Houses.withRectangle();
        Due.due("of three", x.piece(0, 1, 2, NONE), 0);
        Due.due("of four", x.piece(0, 1, 2, 3), 1);
        Due.due("of four, d 0", x.piece(1, 2, 3, 0), 2);
        Due.due("no side 3 of three", x.length(0, 0, 3), BAD);
        Due.due("side 3 of four", x.length(0, 1, 3), 400);
        Due.due("side 3 of four, d 0", x.length(0, 2, 3), 300);
        Due.due("no side 4", x.length(0, 1, 4), BAD);
        Due.due("area of three", x.area(0, 0), 1200);
        Due.due("area of four", x.area(0, 1), 2400);
        Due.due("a fourth of three", x.more(0, 3), 4);
        Due.due("a fifth of four", x.more(1, 3), 5);
        Due.due("one point over and over", x.piece(3, 3, 3, 3), 3);
    }

    private static void pieceRanges() {
        Due.about("PIECE: BAD");
        TailorHouse x = Houses.withRectangle();
        Due.refusedOutside("piece a", 0, 3, BAD, a -> x.piece(a, 1, 2, 3));
        Due.refusedOutside("piece b", 0, 3, BAD, b -> x.piece(0, b, 2, 3));
        Due.refusedOutside("piece c", 0, 3, BAD, c -> x.piece(0, 1, c, 3));
        Due.refusedOutside("piece d", -1, 3, BAD, d -> x.piece(0, 1, 2, d));
        Due.refusedOutside("piece c, of three", 0, 3, BAD, c -> x.piece(0, 1, c, NONE));
        Due.due("no piece", x.count(2), 0);
        Due.due("piece 0", x.piece(3, 3, 3, 3), 0);
    }

    private static void moreUpToEight() {
        Due.about("rows of 3 to 8 POINTS; how many; FULL: 8");
        TailorHouse x = Houses.withRectangle();
        x.piece(0, 1, 2, NONE);
        int[] fromPointTo0 = {0, 300, 500, 400};
        for (int many = 4; many <= 8; many++) {
            Due.due("no side yet", x.length(0, 0, many - 1), BAD);
            Due.due("a point more", x.more(0, many % 4), many);
            Due.due("the side of it", x.length(0, 0, many - 1), fromPointTo0[many % 4]);
        }
        Due.due("a ninth", x.more(0, 0), FULL);
        Due.due("a ninth again", x.more(0, 3), FULL);
        Due.due("BAD ahead of FULL", x.more(0, 4), BAD);
        Due.due("no side 8", x.length(0, 0, 8), BAD);
        x.piece(0, 1, 2, 3);
        for (int many = 5; many <= 8; many++) {
            Due.due("a point more of four", x.more(1, 0), many);
        }
        Due.due("a ninth of the other", x.more(1, 0), FULL);
    }

    private static void moreDoesNotSpill() {
        Due.about("A POINT more at the end of a PIECE: of this one alone");
        TailorHouse x = Houses.withRectangle();
        x.piece(0, 1, 2, NONE);
        x.piece(1, 2, 3, NONE);
        x.piece(2, 3, 0, NONE);
        for (int i = 0; i < 6; i++) {
            x.more(1, 3);
        }
        Due.due("side 0 of the one behind", x.length(0, 2, 0), 300);
        Due.due("side 2 of the one behind", x.length(0, 2, 2), 500);
        Due.due("side 2 of the one ahead", x.length(0, 0, 2), 500);
        Due.due("the one behind is of three", x.length(0, 2, 3), BAD);
        Due.due("the one ahead is of three", x.length(0, 0, 3), BAD);
        Due.due("at the end: side 2 to side 6 are 0", x.length(0, 1, 6), 0);
        Due.due("at the end: the last side", x.length(0, 1, 7), 500);
    }

    private static void moreRanges() {
        Due.about("more: BAD");
        TailorHouse x = Houses.half();
        Due.refusedOutside("more piece", 0, 1, BAD, piece -> x.more(piece, 0));
        Due.refusedOutside("more p", 0, 3, BAD, p -> x.more(1, p));
        Due.due("none more", x.more(1, 3), 5);
        Due.due("none more", x.more(0, 0), 4);
    }

    private static void lengthFromTheLastToTheFirst() {
        Due.about("from POINT i of a PIECE to its next one, the last to the first");
        TailorHouse x = new TailorHouse();
        int[] places = {0, 1, 3, 7, 15, 31, 63, 127};
        for (int place : places) {
            x.fixed(place, 0);
        }
        x.piece(0, 1, 2, NONE);
        for (int many = 3; many <= 8; many++) {
            for (int i = 0; i < many - 1; i++) {
                Due.due("side " + i + " of " + many, x.length(0, 0, i), 10 << i);
            }
            Due.due("the last of " + many, x.length(0, 0, many - 1), 10 * places[many - 1]);
            Due.due("behind the last of " + many, x.length(0, 0, many), BAD);
            x.more(0, Math.min(many, 7));
        }
    }

    private static void lengthOfNothing() {
        Due.about("LENGTH of a side from a POINT to itself");
        TailorHouse x = new TailorHouse();
        x.fixed(-5000, 5000);
        x.fixed(-5000, 5000);
        x.piece(0, 0, 1, NONE);
        for (int i = 0; i < 3; i++) {
            Due.due("side " + i, x.length(5, 0, i), 0);
        }
    }

    private static void lengthIsTheGreatestRoot() {
        Due.about("the greatest whole number the square of which is no more than 100 times the sum of both squares");
        for (int dx = 0; dx <= 40; dx++) {
            for (int dy = dx; dy <= 40; dy++) {
                TailorHouse x = new TailorHouse();
                x.fixed(3, -2);
                x.off(0, dx, -dy);
                x.piece(0, 1, 1, NONE);
                long square = 100L * (dx * dx + dy * dy);
                long length = x.length(0, 0, 0);
                Due.holds("no more: " + dx + ", " + dy, length >= 0 && length * length <= square);
                Due.holds("the greatest: " + dx + ", " + dy, (length + 1) * (length + 1) > square);
                Due.due("the way back", x.length(0, 0, 2), length);
            }
        }
    }

    private static void lengthBeyondAnInt() {
        Due.about("LENGTH where squares go beyond an int");
        TailorHouse x = Houses.withLongMeasure();
        x.fixed(-5000, -5000);
        x.fixed(5000, 5000);
        x.by(0, 0, 20, 1, 0);
        x.by(0, 0, -20, 1, 1);
        for (int p = 4; p < 19; p++) {
            x.by(p, 0, p % 2 == 0 ? 20 : -20, 1, p % 2);
        }
        x.piece(1, 2, 0, NONE);
        x.piece(0, 3, 4, NONE);
        Due.due("root of 20000000000", x.length(0, 0, 0), 141421);
        Due.due("root of 5000000000", x.length(0, 0, 1), 70710);
        Due.due("60000 right", x.length(0, 1, 0), 600000);
        Due.due("60000 up", x.length(0, 1, 2), 600000);
        x.piece(0, 19, 19, NONE);
        Due.due("480000 right, 480000 up", x.length(0, 2, 0), 6788225);
    }

    private static void lengthRanges() {
        Due.about("LENGTH of side i of a PIECE for a BODY. BAD");
        TailorHouse x = Houses.half();
        Due.refusedOutside("length body", 0, 5, BAD, body -> x.length(body, 0, 0));
        Due.refusedOutside("length piece", 0, 1, BAD, piece -> x.length(0, piece, 0));
        Due.refusedOutside("length i of three", 0, 2, BAD, i -> x.length(0, 0, i));
        Due.refusedOutside("length i of four", 0, 3, BAD, i -> x.length(0, 1, i));
        Due.due("the first body", x.length(0, 0, 2), 500);
        Due.due("the last body", x.length(5, 1, 3), 400);
    }

    private static void areaHasNoSign() {
        Due.about("AREA of a PIECE: no sign");
        TailorHouse x = Houses.withRectangle();
        x.piece(0, 1, 2, 3);
        x.piece(3, 2, 1, 0);
        x.piece(1, 2, 3, 0);
        x.piece(2, 1, 0, NONE);
        Due.due("one way", x.area(0, 0), 2400);
        Due.due("the other way", x.area(0, 1), 2400);
        Due.due("from another point", x.area(0, 2), 2400);
        Due.due("three, the other way", x.area(0, 3), 1200);
    }

    private static void areaOfNothing() {
        Due.about("AREA of a PIECE without room");
        TailorHouse x = Houses.withRectangle();
        x.piece(2, 2, 2, NONE);
        x.piece(0, 2, 0, 2);
        x.piece(0, 1, 3, 2);
        Due.due("one point", x.area(0, 0), 0);
        Due.due("a line", x.area(0, 1), 0);
        Due.due("two halves that cross", x.area(0, 2), 0);
    }

    private static void areaIsTwiceIt() {
        Due.about("AREA of a PIECE: twice it, whole");
        TailorHouse x = new TailorHouse();
        x.fixed(-5000, 4999);
        x.off(0, 1, 0);
        x.off(0, 0, -1);
        x.piece(0, 1, 2, NONE);
        Due.due("half of 1, far away", x.area(0, 0), 1);
        x.off(0, 3, -2);
        x.piece(0, 1, 3, 2);
        Due.due("a piece of four, far away", x.area(3, 1), 5);
        x.more(1, 0);
        Due.due("a fifth that is the first", x.area(3, 1), 5);
        x.more(1, 1);
        Due.due("a sixth", x.area(3, 1), 5);
    }

    private static void areaBeyondAnInt() {
        Due.about("AREA (long)");
        TailorHouse x = Houses.withLongMeasure();
        x.by(0, 0, 20, 1, 0);
        x.by(1, 0, 20, 1, 1);
        x.by(0, 0, 20, 1, 1);
        x.piece(0, 1, 2, 3);
        x.piece(0, 3, 2, 1);
        x.piece(0, 1, 2, NONE);
        Due.due("a square of 60000", x.area(0, 0), 7200000000L);
        Due.due("the other way", x.area(0, 1), 7200000000L);
        Due.due("half of it", x.area(0, 2), 3600000000L);
        Due.due("for a body not told of", x.area(1, 0), 0);
    }

    private static void areaRanges() {
        Due.about("AREA. BAD");
        TailorHouse x = Houses.half();
        Due.refusedOutside("area body", 0, 5, BAD, body -> x.area(body, 0));
        Due.refusedOutside("area piece", 0, 1, BAD, piece -> x.area(0, piece));
        Due.due("the first body", x.area(0, 0), 1200);
        Due.due("the last body", x.area(5, 1), 2400);
    }

    private static void tenSeams() {
        Due.about("SEAMS 0 .. 9; FULL: 10");
        TailorHouse x = Houses.withRectangle();
        x.piece(0, 1, 2, 3);
        for (int i = 0; i < 10; i++) {
            Due.due("seam " + i, x.seam(0, i % 4, 0, 3 - i % 4), i);
        }
        Due.due("an eleventh", x.seam(0, 0, 0, 0), FULL);
        Due.due("BAD ahead of FULL", x.seam(0, 0, 0, 4), BAD);
        Due.due("10 seams", x.count(3), 10);
    }

    private static void seamOfTheSame() {
        Due.about("a side of a PIECE and one of another (or the same)");
        TailorHouse x = Houses.half();
        Due.due("of another", x.seam(1, 3, 0, 2), 1);
        Due.due("of the same", x.seam(1, 1, 1, 3), 2);
        Due.due("a side with itself", x.seam(1, 1, 1, 1), 3);
        Due.due("to the letter again", x.seam(1, 1, 1, 1), 4);
    }

    private static void seamRanges() {
        Due.about("SEAM: BAD");
        TailorHouse x = Houses.half();
        Due.refusedOutside("seam piece", 0, 1, BAD, piece -> x.seam(piece, 0, 1, 0));
        Due.refusedOutside("seam i of three", 0, 2, BAD, i -> x.seam(0, i, 1, 0));
        Due.refusedOutside("seam i of four", 0, 3, BAD, i -> x.seam(1, i, 0, 0));
        Due.refusedOutside("seam other", 0, 1, BAD, other -> x.seam(1, 0, other, 0));
        Due.refusedOutside("seam j of three", 0, 2, BAD, j -> x.seam(1, 0, 0, j));
        Due.refusedOutside("seam j of four", 0, 3, BAD, j -> x.seam(0, 0, 1, j));
        Due.due("none more", x.count(3), 1);
        Due.due("the last sides", x.seam(0, 2, 1, 3), 1);
        Due.due("the last sides", x.seam(1, 3, 0, 2), 2);
        Due.due("the first sides", x.seam(0, 0, 1, 0), 3);
    }

    private static void seamOnASideToCome() {
        Due.about("SEAMS join a side of a PIECE: one that is there");
        TailorHouse x = Houses.withRectangle();
        x.piece(0, 1, 2, NONE);
        Due.due("side 3 of three", x.seam(0, 3, 0, 0), BAD);
        x.more(0, 3);
        Due.due("side 3 of four", x.seam(0, 3, 0, 1), 0);
        Due.due("40 and 40", x.gaps(0, 0), NONE);
        x.more(0, 3);
        Due.due("its next one is another POINT now: 0 and 40", x.gaps(0, 0), 0);
    }

    /** Pieces whose sides 0 are 5 and 5 and a measure; seam 0 joins them in the given order. */
    private static TailorHouse withUnlikeSides(boolean longerFirst) {
        TailorHouse x = new TailorHouse();
        x.fixed(0, 0);
        x.fixed(5, 0);
        x.by(1, 3, 1, 10, 0);
        x.fixed(0, 1);
        x.piece(0, 1, 3, NONE);
        x.piece(0, 2, 3, NONE);
        x.seam(longerFirst ? 1 : 0, 0, longerFirst ? 0 : 1, 0);
        for (int body = 0; body < 6; body++) {
            x.tell(0, body, 3, 1, 20 * body);
        }
        return x;
    }

    private static void agreeWithinT() {
        Due.about("AGREE within t (0 .. 100), if LENGTHS differ by t or less");
        TailorHouse x = withUnlikeSides(false);
        Due.due("by 0, within 0", x.gaps(0, 0), NONE);
        for (int body = 1; body < 6; body++) {
            Due.due("by " + 20 * body + ", within 0", x.gaps(body, 0), 0);
            Due.due("by " + 20 * body + ", within one less", x.gaps(body, 20 * body - 1), 0);
            Due.due("by " + 20 * body + ", within just that", x.gaps(body, 20 * body), NONE);
        }
        x.tell(0, 5, 3, 2, 110);
        Due.due("by 110, within 100", x.gaps(5, 100), 0);
        // sides of 50 and of the root of 2600, 50.99 cut to 50
        TailorHouse cut = new TailorHouse();
        cut.fixed(0, 0);
        cut.fixed(5, 0);
        cut.fixed(5, 1);
        cut.piece(0, 1, 2, NONE);
        cut.seam(0, 0, 0, 2);
        Due.due("whole LENGTHS do not differ", cut.gaps(0, 0), NONE);
    }

    private static void agreeBothWays() {
        Due.about("LENGTHS differ by t or less, whichever is longer");
        TailorHouse x = withUnlikeSides(true);
        for (int body = 1; body < 6; body++) {
            Due.due("by " + 20 * body + ", within one less", x.gaps(body, 20 * body - 1), 0);
            Due.due("by " + 20 * body + ", within just that", x.gaps(body, 20 * body), NONE);
        }
    }

    private static void firstGap() {
        Due.about("The first SEAM that does not AGREE for a BODY within t");
        TailorHouse x = withUnlikeSides(false);
        x.seam(1, 1, 1, 1);
        x.seam(1, 0, 0, 2);
        x.seam(0, 0, 0, 2);
        Due.due("0 agrees for body 0, 2 does not", x.gaps(0, 39), 2);
        Due.due("0 does not for body 1", x.gaps(1, 19), 0);
        Due.due("0 does for body 1 within 20, 2 does not", x.gaps(1, 20), 2);
        Due.due("2 and 3 differ by 40", x.gaps(0, 40), NONE);
    }

    private static void lastGap() {
        Due.about("The first SEAM that does not AGREE: the last of ten");
        TailorHouse x = Houses.withRectangle();
        x.piece(2, 2, 2, NONE);
        x.piece(0, 1, 2, 3);
        for (int i = 0; i < 9; i++) {
            x.seam(i % 2, 0, i % 2, i % 2 == 0 ? 1 : 2);
        }
        Due.due("nine agree", x.gaps(0, 0), NONE);
        x.seam(1, 3, 1, 2);
        Due.due("the tenth does not", x.gaps(0, 99), 9);
        Due.due("the tenth does", x.gaps(0, 100), NONE);
    }

    private static void noSeams() {
        Due.about("NONE: all do; there are none");
        TailorHouse x = new TailorHouse();
        Due.due("no pieces", x.gaps(0, 0), NONE);
        x.fixed(0, 0);
        x.fixed(0, 5000);
        x.piece(0, 1, 1, NONE);
        Due.due("no seams", x.gaps(5, 100), NONE);
        Due.due("BAD without seams", x.gaps(6, 0), BAD);
        Due.due("BAD without seams", x.gaps(0, 101), BAD);
    }

    private static void gapsRanges() {
        Due.about("within t (0 .. 100); BAD");
        TailorHouse x = Houses.half();
        Due.refusedOutside("gaps body", 0, 5, BAD, body -> x.gaps(body, 0));
        Due.refusedOutside("gaps t", 0, 100, BAD, t -> x.gaps(0, t));
        Due.due("t 0", x.gaps(0, 0), 0);
        Due.due("t 100", x.gaps(5, 100), NONE);
    }
}
