/** Promises 7 to 11 and 18: points, where they are and on which measures they hang. */
public final class DraftTest {
    private static final int MAX = Due.MAX, MIN = Due.MIN;

    public static void main(String[] args) {
        fixed();
        off();
        by();
        middle();
        pointsForEachBody();
        fullOfPoints();
        badPlaces();
        farthestPoint();
        hangingPoints();
        hangingPieces();
        Due.end();
    }

    private static void at(TailorHouse x, int body, int p, int wantX, int wantY) {
        Due.due("x of " + p + " for " + body, x.at(body, p, 0), wantX);
        Due.due("y of " + p + " for " + body, x.at(body, p, 1), wantY);
    }

    private static void fixed() {
        TailorHouse x = new TailorHouse();
        Due.due("fixed 0", x.fixed(-5000, 5000), 0);
        Due.due("fixed 1", x.fixed(5000, -5000), 1);
        at(x, 0, 0, -5000, 5000);
        at(x, 5, 1, 5000, -5000);
        int[] bad = {-5001, 5001, MAX, MIN};
        for (int v : bad) {
            Due.due("fixed bad a", x.fixed(v, 0), TailorHouse.BAD);
            Due.due("fixed bad b", x.fixed(0, v), TailorHouse.BAD);
        }
        Due.due("none more", x.count(1), 2);
    }

    private static void off() {
        TailorHouse x = new TailorHouse();
        Due.due("off nothing", x.off(0, 1, 1), TailorHouse.BAD);
        x.fixed(10, 20);
        Due.due("off 1", x.off(0, -5000, 5000), 1);
        Due.due("off 2", x.off(1, 5000, -5000), 2);
        at(x, 3, 1, -4990, 5020);
        at(x, 3, 2, 10, 20);
        int[] badPoints = {-1, 3, 20, MAX, MIN};
        for (int p : badPoints) {
            Due.due("off bad p", x.off(p, 0, 0), TailorHouse.BAD);
        }
        int[] bad = {-5001, 5001, MAX, MIN};
        for (int v : bad) {
            Due.due("off bad dx", x.off(0, v, 0), TailorHouse.BAD);
            Due.due("off bad dy", x.off(0, 0, v), TailorHouse.BAD);
        }
        Due.due("none more", x.count(1), 3);
    }

    private static void by() {
        TailorHouse x = new TailorHouse();
        Due.due("by nothing", x.by(0, 0, 1, 1, 0), TailorHouse.BAD);
        x.fixed(100, 200);
        x.tell(0, 0, 3, 1, 1001);
        Due.due("by 1", x.by(0, 3, 1, 2, 0), 1);
        Due.due("by 2", x.by(0, 3, -1, 2, 1), 2);
        Due.due("by 3", x.by(2, 3, 20, 1, 0), 3);
        Due.due("by 4", x.by(2, 3, -20, 20, 1), 4);
        Due.due("by 5", x.by(2, 3, 0, 20, 1), 5);
        Due.due("by 6", x.by(0, 3, 2, 3, 0), 6);
        at(x, 0, 1, 600, 200);
        at(x, 0, 2, 100, -300);
        at(x, 0, 3, 20120, -300);
        at(x, 0, 4, 100, -1301);
        at(x, 0, 5, 100, -300);
        at(x, 0, 6, 767, 200);
        at(x, 1, 4, 100, 200);
        x.habit(0, 3, -50);
        at(x, 0, 1, 625, 200);
        int[][] bad = {
            {-1, 0, 1, 1, 0}, {7, 0, 1, 1, 0}, {MAX, 0, 1, 1, 0}, {MIN, 0, 1, 1, 0},
            {0, -1, 1, 1, 0}, {0, 6, 1, 1, 0}, {0, MAX, 1, 1, 0}, {0, MIN, 1, 1, 0},
            {0, 0, -21, 1, 0}, {0, 0, 21, 1, 0}, {0, 0, MAX, 1, 0}, {0, 0, MIN, 1, 0},
            {0, 0, 1, 0, 0}, {0, 0, 1, 21, 0}, {0, 0, 1, -1, 0}, {0, 0, 1, MAX, 0}, {0, 0, 1, MIN, 0},
            {0, 0, 1, 1, -1}, {0, 0, 1, 1, 2}, {0, 0, 1, 1, MAX}, {0, 0, 1, 1, MIN},
        };
        for (int[] b : bad) {
            Due.due("by, bad", x.by(b[0], b[1], b[2], b[3], b[4]), TailorHouse.BAD);
        }
        Due.due("none more", x.count(1), 7);
    }

    private static void middle() {
        TailorHouse x = new TailorHouse();
        Due.due("middle of nothing", x.middle(0, 0), TailorHouse.BAD);
        x.fixed(-3, 3);
        x.fixed(0, 0);
        Due.due("middle 2", x.middle(0, 1), 2);
        Due.due("middle 3", x.middle(0, 0), 3);
        Due.due("middle 4", x.middle(1, 2), 4);
        at(x, 0, 2, -1, 1);
        at(x, 0, 3, -3, 3);
        at(x, 0, 4, 0, 0);
        int[] bad = {-1, 5, MAX, MIN};
        for (int p : bad) {
            Due.due("middle bad p", x.middle(p, 0), TailorHouse.BAD);
            Due.due("middle bad q", x.middle(0, p), TailorHouse.BAD);
        }
        Due.due("none more", x.count(1), 5);
    }

    private static void pointsForEachBody() {
        TailorHouse x = new TailorHouse();
        x.fixed(0, 0);
        x.by(0, 2, 1, 1, 0);
        x.middle(0, 1);
        x.off(2, 1, 1);
        x.tell(0, 1, 2, 5, 100);
        x.tell(0, 2, 2, 5, 200);
        at(x, 0, 3, 1, 1);
        at(x, 1, 3, 51, 1);
        at(x, 2, 3, 101, 1);
        x.tell(0, 1, 2, 6, 300);
        at(x, 1, 3, 151, 1);
        at(x, 2, 3, 101, 1);
    }

    private static void fullOfPoints() {
        TailorHouse x = new TailorHouse();
        for (int i = 0; i < 20; i++) {
            Due.due("point " + i, x.fixed(i, -i), i);
        }
        Due.due("fixed FULL", x.fixed(0, 0), TailorHouse.FULL);
        Due.due("off FULL", x.off(19, 0, 0), TailorHouse.FULL);
        Due.due("by FULL", x.by(19, 0, 1, 1, 0), TailorHouse.FULL);
        Due.due("middle FULL", x.middle(0, 19), TailorHouse.FULL);
        Due.due("fixed BAD ahead of FULL", x.fixed(5001, 0), TailorHouse.BAD);
        Due.due("off BAD ahead of FULL", x.off(20, 0, 0), TailorHouse.BAD);
        Due.due("by BAD ahead of FULL", x.by(0, 0, 1, 0, 0), TailorHouse.BAD);
        Due.due("middle BAD ahead of FULL", x.middle(0, 20), TailorHouse.BAD);
        Due.due("20 points", x.count(1), 20);
        at(x, 0, 19, 19, -19);
    }

    private static void badPlaces() {
        TailorHouse x = new TailorHouse();
        Due.due("at nothing", x.at(0, 0, 0), -2000000000);
        x.fixed(1, 2);
        int[] bodies = {-1, 6, MAX, MIN};
        for (int body : bodies) {
            Due.due("at bad body", x.at(body, 0, 0), -2000000000);
        }
        int[] points = {-1, 1, 20, MAX, MIN};
        for (int p : points) {
            Due.due("at bad point", x.at(0, p, 0), -2000000000);
        }
        int[] whats = {-1, 2, MAX, MIN};
        for (int what : whats) {
            Due.due("at bad what", x.at(0, 0, what), -2000000000);
        }
    }

    private static void farthestPoint() {
        TailorHouse x = new TailorHouse();
        x.tell(0, 0, 0, 0, 3000);
        x.habit(0, 0, -50);
        x.fixed(5000, 5000);
        for (int i = 0; i < 9; i++) {
            x.by(i, 0, 20, 1, 0);
        }
        x.by(0, 0, -20, 1, 0);
        for (int i = 10; i < 19; i++) {
            x.by(i, 0, -20, 1, 0);
        }
        at(x, 0, 9, 5000 + 9 * 61000, 5000);
        at(x, 0, 19, 5000 - 10 * 61000, 5000);
        x.piece(9, 19, 0, -1);
        Due.due("long side", x.length(0, 0, 0), 19 * 610000);
    }

    private static void hangingPoints() {
        TailorHouse x = new TailorHouse();
        Due.due("no points", x.hangs(0, 0), 0);
        Due.due("no pieces", x.hangs(0, 1), 0);
        x.fixed(0, 0);
        x.by(0, 0, 0, 1, 0);
        x.by(1, 1, 1, 1, 1);
        x.off(2, 1, 1);
        x.middle(0, 1);
        x.middle(2, 0);
        x.fixed(1, 1);
        x.middle(0, 6);
        x.by(0, 5, 1, 1, 1);
        Due.due("on 0", x.hangs(0, 0), 0b111110);
        Due.due("on 1", x.hangs(1, 0), 0b101100);
        Due.due("on 5", x.hangs(5, 0), 0b100000000);
        Due.due("on 2", x.hangs(2, 0), 0);
        for (int i = 9; i < 20; i++) {
            x.off(8, i, i);
        }
        Due.due("the last point's bit", x.hangs(5, 0), 0xfff00);
        int[] measures = {-1, 6, MAX, MIN};
        for (int measure : measures) {
            Due.due("hangs bad measure", x.hangs(measure, 0), TailorHouse.BAD);
        }
        int[] whats = {-1, 2, MAX, MIN};
        for (int what : whats) {
            Due.due("hangs bad what", x.hangs(0, what), TailorHouse.BAD);
        }
    }

    private static void hangingPieces() {
        TailorHouse x = new TailorHouse();
        x.fixed(0, 0);
        x.by(0, 3, 1, 1, 0);
        x.by(0, 4, 1, 1, 0);
        x.off(1, 0, 5);
        x.piece(0, 0, 0, -1);
        x.piece(0, 0, 0, 3);
        x.piece(2, 0, 0, -1);
        x.piece(0, 0, 0, 0);
        Due.due("pieces on 3", x.hangs(3, 1), 0b0010);
        Due.due("pieces on 4", x.hangs(4, 1), 0b0100);
        Due.due("pieces on 5", x.hangs(5, 1), 0);
        x.more(3, 2);
        x.more(3, 1);
        Due.due("pieces on 3, a point more", x.hangs(3, 1), 0b1010);
        Due.due("pieces on 4, a point more", x.hangs(4, 1), 0b1100);
        for (int i = 4; i < 7; i++) {
            x.piece(0, 3, 0, -1);
        }
        Due.due("the last piece's bit", x.hangs(3, 1), 0b1111010);
        for (int i = 3; i < 8; i++) {
            x.more(6, 0);
        }
        x.more(0, 3);
        Due.due("the first piece's bit", x.hangs(3, 1), 0b1111011);
    }
}
