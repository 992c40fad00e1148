/** The document's sentences on points that name an edge, and on what hangs on a measure: a test for each. */
public final class EdgesOfDraftsTest {
    private static final int BAD = TailorHouse.BAD, FULL = TailorHouse.FULL, BAD_AT = -2000000000;

    public static void main(String[] args) {
        twentyPoints();
        twentyOfEachKind();
        pointsOnPointsAheadAlone();
        fixedFromMinus5000To5000();
        offFromMinus5000To5000();
        offOverAndOver();
        byParts();
        byIsCutTowardZero();
        byAMeasureBelow0();
        byAMeasureNotTold();
        byRightOrDown();
        byRanges();
        middleIsCutTowardZero();
        middleOfTheFarthest();
        middleOfPointsThatAreThere();
        workedAnewForABody();
        workedAnewAfterAChange();
        atRanges();
        hangsOnNothing();
        hangsOnAMeasureByAnyPart();
        hangsByAPointItIsMadeOf();
        hangsNotByANumberThatIsAlike();
        hangsAsBits();
        piecesHangByAnyPoint();
        hangsRanges();
        Due.end();
    }

    private static void at(TailorHouse x, int body, int p, int wantX, int wantY) {
        Due.due("x of " + p + " for " + body, x.at(body, p, 0), wantX);
        Due.due("y of " + p + " for " + body, x.at(body, p, 1), wantY);
    }

    private static void twentyPoints() {
        Due.about("POINTS 0 .. 19, as they come; FULL: 20");
        TailorHouse x = new TailorHouse();
        Due.due("0", x.fixed(7, 8), 0);
        for (int i = 1; i < 17; i++) {
            Due.due("a point of any kind", addOfKind(x, i % 4), i);
        }
        Due.due("17", x.off(16, 0, 0), 17);
        Due.due("18", x.middle(17, 0), 18);
        Due.due("19", x.fixed(-9, 9), 19);
        for (int kind = 0; kind < 4; kind++) {
            Due.due("a point more, of kind " + kind, addOfKind(x, kind), FULL);
        }
        Due.due("20 points", x.count(1), 20);
        at(x, 0, 0, 7, 8);
        at(x, 0, 19, -9, 9);
        Due.due("no point 20", x.at(0, 20, 0), BAD_AT);
    }

    private static int addOfKind(TailorHouse x, int kind) {
        switch (kind) {
            case 0:
                return x.fixed(1, 2);
            case 1:
                return x.off(0, 1, 2);
            case 2:
                return x.by(0, 0, 1, 1, 0);
            default:
                return x.middle(0, 0);
        }
    }

    private static void twentyOfEachKind() {
        Due.about("FULL: 20, for each kind of POINT");
        for (int kind = 0; kind < 4; kind++) {
            TailorHouse x = new TailorHouse();
            x.fixed(0, 0);
            for (int i = 1; i < 20; i++) {
                Due.due("point " + i + " of kind " + kind, addOfKind(x, kind), i);
            }
            Due.due("point 20 of kind " + kind, addOfKind(x, kind), FULL);
        }
    }

    private static void pointsOnPointsAheadAlone() {
        Due.about("POINTS hang on POINTS made ahead of them alone");
        TailorHouse x = new TailorHouse();
        for (int n = 0; n < 20; n++) {
            for (int p : new int[] {n, n + 1, 19, 20}) {
                if (p >= n) {
                    Due.due("off the one to come", x.off(p, 0, 0), BAD);
                    Due.due("by the one to come", x.by(p, 0, 1, 1, 0), BAD);
                    Due.due("middle of the one to come", x.middle(p, 0), BAD);
                    Due.due("middle with the one to come", x.middle(0, p), BAD);
                }
            }
            Due.due("point " + n, n == 0 ? x.fixed(1, 1) : x.off(n - 1, 1, 1), n);
        }
        at(x, 3, 19, 20, 20);
    }

    private static void fixedFromMinus5000To5000() {
        Due.about("A FIXED POINT (-5000 .. 5000)");
        TailorHouse x = new TailorHouse();
        Due.due("least, greatest", x.fixed(-5000, 5000), 0);
        Due.due("greatest, least", x.fixed(5000, -5000), 1);
        Due.due("0", x.fixed(0, 0), 2);
        Due.refusedOutside("fixed a", -5000, 5000, BAD, a -> x.fixed(a, 0));
        Due.refusedOutside("fixed b", -5000, 5000, BAD, b -> x.fixed(0, b));
        at(x, 0, 0, -5000, 5000);
        at(x, 5, 1, 5000, -5000);
        at(x, 3, 2, 0, 0);
        Due.due("none more", x.count(1), 3);
    }

    private static void offFromMinus5000To5000() {
        Due.about("A POINT OFF another one (-5000 .. 5000)");
        TailorHouse x = new TailorHouse();
        x.fixed(1, 2);
        Due.due("least, greatest", x.off(0, -5000, 5000), 1);
        Due.due("greatest, least", x.off(0, 5000, -5000), 2);
        Due.due("0", x.off(0, 0, 0), 3);
        Due.refusedOutside("off dx", -5000, 5000, BAD, dx -> x.off(0, dx, 0));
        Due.refusedOutside("off dy", -5000, 5000, BAD, dy -> x.off(0, 0, dy));
        Due.refusedOutside("off p", 0, 3, BAD, p -> x.off(p, 0, 0));
        at(x, 0, 1, -4999, 5002);
        at(x, 0, 2, 5001, -4998);
        at(x, 0, 3, 1, 2);
        Due.due("none more", x.count(1), 4);
    }

    private static void offOverAndOver() {
        Due.about("OFF a POINT p by dx, dy: beyond 5000");
        TailorHouse x = new TailorHouse();
        x.fixed(5000, -5000);
        for (int p = 0; p < 19; p++) {
            x.off(p, 5000, -5000);
        }
        at(x, 0, 19, 100000, -100000);
    }

    private static void byParts() {
        Due.about("BY a MEASURE: a by b (-20 .. 20; 1 .. 20)");
        TailorHouse x = Houses.withLongMeasure();
        int[][] parts = {{20, 1, 60000}, {-20, 1, -60000}, {20, 20, 3000}, {-20, 20, -3000},
            {1, 20, 150}, {-1, 20, -150}, {0, 1, 0}, {0, 20, 0}, {1, 1, 3000}, {19, 7, 8142}};
        for (int i = 0; i < parts.length; i++) {
            Due.due("by", x.by(0, 0, parts[i][0], parts[i][1], i % 2), i + 1);
            at(x, 0, i + 1, i % 2 == 0 ? parts[i][2] : 0, i % 2 == 0 ? 0 : parts[i][2]);
        }
    }

    private static void byIsCutTowardZero() {
        Due.about("(m's a by b, cut toward 0)");
        TailorHouse x = new TailorHouse();
        x.tell(0, 0, 1, 0, 7);
        x.fixed(-100, 100);
        int[][] parts = {{1, 2, 3}, {-1, 2, -3}, {3, 2, 10}, {-3, 2, -10}, {2, 20, 0}, {-2, 20, 0},
            {1, 8, 0}, {-1, 8, 0}, {1, 7, 1}, {-1, 7, -1}, {2, 15, 0}, {15, 2, 52}, {-15, 2, -52}};
        for (int i = 0; i < parts.length; i++) {
            x.by(0, 1, parts[i][0], parts[i][1], 0);
            at(x, 0, i + 1, parts[i][2] - 100, 100);
        }
    }

    private static void byAMeasureBelow0() {
        Due.about("(m's a by b, cut toward 0): m below 0");
        TailorHouse x = new TailorHouse();
        x.tell(0, 0, 1, 0, 0);
        x.habit(0, 1, 7);
        x.fixed(0, 0);
        int[][] parts = {{1, 2, -3}, {-1, 2, 3}, {3, 2, -10}, {-3, 2, 10}, {1, 8, 0}, {20, 1, -140}};
        for (int i = 0; i < parts.length; i++) {
            x.by(0, 1, parts[i][0], parts[i][1], 1);
            at(x, 0, i + 1, 0, parts[i][2]);
        }
    }

    private static void byAMeasureNotTold() {
        Due.about("BY a MEASURE of which there is no telling: 0");
        TailorHouse x = Houses.withLongMeasure();
        x.habit(0, 0, 50);
        x.by(0, 0, 20, 1, 0);
        x.by(0, 1, 20, 1, 0);
        at(x, 0, 1, 59000, 0);
        at(x, 1, 1, 0, 0);
        at(x, 0, 2, 0, 0);
    }

    private static void byRightOrDown() {
        Due.about("to the right (way 0) or down (way 1: y grows)");
        TailorHouse x = Houses.withLongMeasure();
        x.fixed(5, 6);
        x.by(1, 0, 1, 1, 0);
        x.by(1, 0, 1, 1, 1);
        at(x, 0, 2, 3005, 6);
        at(x, 0, 3, 5, 3006);
    }

    private static void byRanges() {
        Due.about("BY: BAD");
        TailorHouse x = Houses.withLongMeasure();
        Due.refusedOutside("by p", 0, 0, BAD, p -> x.by(p, 0, 1, 1, 0));
        Due.refusedOutside("by measure", 0, 5, BAD, measure -> x.by(0, measure, 1, 1, 0));
        Due.refusedOutside("by a", -20, 20, BAD, a -> x.by(0, 0, a, 1, 0));
        Due.refusedOutside("by b", 1, 20, BAD, b -> x.by(0, 0, 1, b, 0));
        Due.refusedOutside("by way", 0, 1, BAD, way -> x.by(0, 0, 1, 1, way));
        Due.due("none more", x.count(1), 1);
        Due.due("the last measure", x.by(0, 5, 1, 1, 1), 1);
    }

    private static void middleIsCutTowardZero() {
        Due.about("MIDDLE (each sum by 2, cut toward 0)");
        int[][] dues = {{0, 0, 0}, {1, 0, 0}, {-1, 0, 0}, {2, 1, 1}, {-2, 1, 0}, {-2, -1, -1}, {3, 0, 1}, {-3, 0, -1},
            {5000, -5000, 0}, {5000, 4999, 4999}, {-5000, -4999, -4999}, {-5000, 4999, 0}, {-5000, 4997, -1}};
        for (int[] due : dues) {
            TailorHouse x = new TailorHouse();
            x.fixed(due[0], 77);
            x.fixed(due[1], -78);
            x.fixed(77, due[0]);
            x.fixed(-78, due[1]);
            x.middle(0, 1);
            x.middle(1, 0);
            x.middle(2, 3);
            x.middle(3, 2);
            at(x, 0, 4, due[2], 0);
            at(x, 0, 5, due[2], 0);
            at(x, 0, 6, 0, due[2]);
            at(x, 0, 7, 0, due[2]);
        }
    }

    private static void middleOfTheFarthest() {
        Due.about("MIDDLE of POINTS p, q: the farthest ones, and one with itself");
        TailorHouse x = Houses.withLongMeasure();
        x.habit(0, 0, -50);
        for (int p = 0; p < 17; p++) {
            x.by(p, 0, 20, 1, p % 2);
        }
        at(x, 0, 17, 9 * 61000, 8 * 61000);
        Due.due("with itself", x.middle(17, 17), 18);
        at(x, 0, 18, 9 * 61000, 8 * 61000);
        Due.due("with the first", x.middle(18, 0), 19);
        at(x, 0, 19, 9 * 30500, 8 * 30500);
    }

    private static void middleOfPointsThatAreThere() {
        Due.about("MIDDLE: BAD");
        TailorHouse x = Houses.withRectangle();
        Due.refusedOutside("middle p", 0, 3, BAD, p -> x.middle(p, 3));
        Due.refusedOutside("middle q", 0, 3, BAD, q -> x.middle(3, q));
        Due.due("none more", x.count(1), 4);
        Due.due("the first and the last", x.middle(0, 3), 4);
    }

    private static void workedAnewForABody() {
        Due.about("x, y (whole numbers, worked anew for a BODY)");
        TailorHouse x = new TailorHouse();
        x.fixed(1, 1);
        x.by(0, 4, 1, 1, 0);
        x.off(1, 1, 0);
        x.middle(2, 0);
        for (int body = 0; body < 6; body++) {
            x.tell(0, body, 4, 0, 100 * body);
        }
        for (int turn = 0; turn < 2; turn++) {
            for (int body = 5; body >= 0; body--) {
                at(x, body, 2, 100 * body + 2, 1);
                at(x, body, 3, (100 * body + 3) / 2, 1);
            }
        }
    }

    private static void workedAnewAfterAChange() {
        Due.about("worked anew: a telling, a HABIT");
        TailorHouse x = Houses.withLongMeasure();
        x.by(0, 0, 1, 2, 1);
        at(x, 0, 1, 0, 1500);
        x.tell(1, 0, 0, 0, 0);
        at(x, 0, 1, 0, 750);
        x.tell(1, 0, 0, 1, 10);
        at(x, 0, 1, 0, 5);
        x.habit(1, 0, 9);
        at(x, 0, 1, 0, 0);
        x.habit(1, 0, 20);
        at(x, 0, 1, 0, -5);
    }

    private static void atRanges() {
        Due.about("A POINT's x (0), y (1) for a BODY. BAD: -2000000000");
        TailorHouse x = new TailorHouse();
        Due.due("no point yet", x.at(0, 0, 0), BAD_AT);
        x.fixed(-1, -2);
        x.fixed(-3, -4);
        Due.refusedOutside("at body", 0, 5, BAD_AT, body -> x.at(body, 0, 0));
        Due.refusedOutside("at p", 0, 1, BAD_AT, p -> x.at(0, p, 0));
        Due.refusedOutside("at what", 0, 1, BAD_AT, what -> x.at(0, 0, what));
        for (int body = 0; body < 6; body++) {
            at(x, body, 0, -1, -2);
            at(x, body, 1, -3, -4);
        }
    }

    private static void hangsOnNothing() {
        Due.about("Which POINTS, PIECES HANG ON a MEASURE: none");
        TailorHouse x = new TailorHouse();
        for (int measure = 0; measure < 6; measure++) {
            Due.due("no points", x.hangs(measure, 0), 0);
            Due.due("no pieces", x.hangs(measure, 1), 0);
        }
        x.tell(0, 0, 0, 0, 100);
        x.fixed(0, 0);
        x.off(0, 1, 1);
        x.middle(0, 1);
        x.piece(0, 1, 2, -1);
        for (int measure = 0; measure < 6; measure++) {
            Due.due("fixed, off and middle alone", x.hangs(measure, 0), 0);
            Due.due("a piece of these", x.hangs(measure, 1), 0);
        }
    }

    private static void hangsOnAMeasureByAnyPart() {
        Due.about("A POINT HANGS ON a MEASURE if it is by it");
        TailorHouse x = new TailorHouse();
        x.fixed(0, 0);
        for (int measure = 0; measure < 6; measure++) {
            x.by(0, measure, measure - 3, 20, measure % 2);
        }
        for (int measure = 0; measure < 6; measure++) {
            Due.due("on " + measure + ", told or not, a 0 or not", x.hangs(measure, 0), 2 << measure);
        }
    }

    private static void hangsByAPointItIsMadeOf() {
        Due.about("or a POINT that it is made of does");
        TailorHouse x = new TailorHouse();
        x.fixed(0, 0);
        x.by(0, 2, 1, 1, 0);
        x.fixed(0, 0);
        x.middle(1, 2);
        x.middle(2, 1);
        x.off(4, 1, 1);
        x.by(5, 3, 1, 1, 1);
        x.middle(6, 6);
        x.middle(0, 2);
        x.by(1, 2, 1, 1, 0);
        Due.due("on 2", x.hangs(2, 0), 0b1011111010);
        Due.due("on 3", x.hangs(3, 0), 0b11000000);
        Due.due("on 0", x.hangs(0, 0), 0);
    }

    private static void hangsNotByANumberThatIsAlike() {
        Due.about("HANGS ON: a POINT's number is no MEASURE's");
        TailorHouse x = new TailorHouse();
        x.fixed(5, 4);
        x.by(0, 4, 1, 1, 0);
        x.fixed(4, 4);
        x.middle(0, 2);
        x.by(0, 1, 1, 1, 0);
        x.off(2, 4, 4);
        Due.due("middle with point 2 is not by measure 2", x.hangs(2, 0), 0);
        Due.due("by measure 1 is not made of point 1", x.hangs(4, 0), 0b10);
        Due.due("on 1", x.hangs(1, 0), 0b10000);
        Due.due("nobody on 0", x.hangs(0, 0), 0);
        Due.due("nobody on 5", x.hangs(5, 0), 0);
    }

    private static void hangsAsBits() {
        Due.about("as bits: all that can hang");
        TailorHouse x = new TailorHouse();
        x.fixed(0, 0);
        for (int p = 0; p < 19; p++) {
            x.by(p, 5, 1, 1, 0);
        }
        Due.due("points 1 to 19", x.hangs(5, 0), 0xffffe);
        for (int piece = 0; piece < 7; piece++) {
            x.piece(0, 0, 0, 19);
        }
        Due.due("pieces 0 to 6", x.hangs(5, 1), 0x7f);
    }

    private static void piecesHangByAnyPoint() {
        Due.about("a PIECE if a POINT of it does");
        TailorHouse x = new TailorHouse();
        x.fixed(0, 0);
        x.by(0, 1, 1, 1, 0);
        x.piece(1, 0, 0, -1);
        x.piece(0, 1, 0, -1);
        x.piece(0, 0, 1, -1);
        x.piece(0, 0, 0, 1);
        x.piece(0, 0, 0, -1);
        x.piece(1, 1, 0, -1);
        x.piece(1, 1, 1, 1);
        Due.due("by one of three, of four, by two, by all", x.hangs(1, 1), 0b1101111);
        for (int i = 3; i < 7; i++) {
            x.more(4, 0);
        }
        Due.due("seven points, none hangs", x.hangs(1, 1), 0b1101111);
        x.more(4, 1);
        Due.due("by the eighth point", x.hangs(1, 1), 0b1111111);
    }

    private static void hangsRanges() {
        Due.about("POINTS (what = 0), PIECES (1); BAD");
        TailorHouse x = Houses.full();
        Due.refusedOutside("hangs measure", 0, 5, BAD, measure -> x.hangs(measure, 0));
        Due.refusedOutside("hangs measure", 0, 5, BAD, measure -> x.hangs(measure, 1));
        Due.refusedOutside("hangs what", 0, 1, BAD, what -> x.hangs(0, what));
    }
}
