/** Promises 1 to 6: tellings, habits, measures. */
public final class BodiesTest {
    private static final int MAX = Due.MAX, MIN = Due.MIN;

    public static void main(String[] args) {
        newObject();
        tellingsAreCounted();
        badTellings();
        habits();
        meanOfTheLatestDay();
        meanIsCutTowardZero();
        grown();
        found();
        badQuestions();
        Due.end();
    }

    private static void newObject() {
        TailorHouse x = new TailorHouse();
        for (int what = 0; what <= 4; what++) {
            Due.due("new: count " + what, x.count(what), 0);
        }
        for (int hand = 0; hand < 4; hand++) {
            for (int measure = 0; measure < 6; measure++) {
                Due.due("new: habit", x.habit(hand, measure, 7), 0);
            }
        }
        for (int body = 0; body < 6; body++) {
            for (int measure = 0; measure < 6; measure++) {
                Due.due("new: measure", x.measure(body, measure), 0);
                Due.due("new: grown", x.grown(body, measure), 0);
            }
        }
        TailorHouse other = new TailorHouse();
        Due.due("objects are apart", other.habit(0, 0, 1), 0);
    }

    private static void tellingsAreCounted() {
        TailorHouse x = new TailorHouse();
        for (int i = 1; i <= 40; i++) {
            Due.due("telling " + i, x.tell(i % 4, i % 6, i % 6, i, i), i);
        }
        long before = x.digest();
        Due.due("telling 41", x.tell(0, 0, 0, 0, 0), TailorHouse.FULL);
        Due.due("telling 41, day late", x.tell(0, 0, 0, 10000, 3000), TailorHouse.FULL);
        Due.due("BAD ahead of FULL", x.tell(4, 0, 0, 0, 0), TailorHouse.BAD);
        Due.due("FULL changes nothing", x.digest(), before);
        Due.due("40 kept", x.count(0), 40);
        Due.due("found among 40", x.found(4, 0, 0), 0);
        Due.due("the last telling", x.measure(40 % 6, 40 % 6), 40);
        Due.due("the one ahead of it", x.grown(40 % 6, 40 % 6), 6);
    }

    private static void badTellings() {
        TailorHouse x = new TailorHouse();
        int[][] bad = {
            {-1, 0, 0, 0, 0}, {4, 0, 0, 0, 0}, {MAX, 0, 0, 0, 0}, {MIN, 0, 0, 0, 0},
            {0, -1, 0, 0, 0}, {0, 6, 0, 0, 0}, {0, MAX, 0, 0, 0}, {0, MIN, 0, 0, 0},
            {0, 0, -1, 0, 0}, {0, 0, 6, 0, 0}, {0, 0, MAX, 0, 0}, {0, 0, MIN, 0, 0},
            {0, 0, 0, -1, 0}, {0, 0, 0, 10001, 0}, {0, 0, 0, MAX, 0}, {0, 0, 0, MIN, 0},
            {0, 0, 0, 0, -1}, {0, 0, 0, 0, 3001}, {0, 0, 0, 0, MAX}, {0, 0, 0, 0, MIN},
        };
        for (int[] b : bad) {
            Due.due("bad telling", x.tell(b[0], b[1], b[2], b[3], b[4]), TailorHouse.BAD);
        }
        Due.due("no bad telling is kept", x.count(0), 0);
        Due.due("least numbers", x.tell(0, 0, 0, 0, 0), 1);
        Due.due("greatest numbers", x.tell(3, 5, 5, 10000, 3000), 2);
    }

    private static void habits() {
        TailorHouse x = new TailorHouse();
        Due.due("habit was 0", x.habit(3, 5, -50), 0);
        Due.due("habit was -50", x.habit(3, 5, 50), -50);
        Due.due("habit too great", x.habit(3, 5, 51), -1000);
        Due.due("habit too small", x.habit(3, 5, -51), -1000);
        Due.due("habit MIN", x.habit(3, 5, MIN), -1000);
        Due.due("habit was 50", x.habit(3, 5, 1), 50);
        Due.due("another hand", x.habit(2, 5, 1), 0);
        Due.due("another measure", x.habit(3, 4, 1), 0);
        int[] badHands = {-1, 4, MAX, MIN};
        for (int hand : badHands) {
            Due.due("habit of a bad hand", x.habit(hand, 0, 0), -1000);
        }
        int[] badMeasures = {-1, 6, MAX, MIN};
        for (int measure : badMeasures) {
            Due.due("habit for a bad measure", x.habit(0, measure, 0), -1000);
        }
    }

    private static void meanOfTheLatestDay() {
        TailorHouse x = new TailorHouse();
        x.tell(0, 1, 2, 9, 100);
        x.tell(1, 1, 2, 4, 900);
        Due.due("a day ahead told later", x.measure(1, 2), 100);
        x.tell(2, 1, 2, 9, 205);
        Due.due("two of a day", x.measure(1, 2), 152);
        x.tell(2, 1, 2, 9, 205);
        Due.due("each telling is kept", x.measure(1, 2), 170);
        x.tell(2, 1, 3, 10, 7);
        x.tell(2, 2, 2, 10, 8);
        Due.due("neither measure nor body are mixed", x.measure(1, 2), 170);
        Due.due("another measure", x.measure(1, 3), 7);
        Due.due("another body", x.measure(2, 2), 8);
        x.habit(2, 2, 10);
        x.habit(2, 3, 50);
        x.habit(1, 2, 50);
        Due.due("the habit for this measure, of this hand", x.measure(1, 2), 163);
        Due.due("day 0", x.tell(0, 0, 0, 0, 3), 7);
        Due.due("told on day 0", x.measure(0, 0), 3);
        x.tell(0, 0, 0, 9999, 4);
        x.tell(0, 0, 0, 10000, 6);
        Due.due("told on the last day", x.measure(0, 0), 6);
        Due.due("grown by the last day", x.grown(0, 0), 2);
    }

    private static void meanIsCutTowardZero() {
        TailorHouse x = new TailorHouse();
        x.habit(0, 0, 50);
        x.habit(1, 0, 49);
        x.tell(0, 0, 0, 1, 0);
        Due.due("a measure below 0", x.measure(0, 0), -50);
        x.tell(1, 0, 0, 1, 0);
        Due.due("-99 by 2", x.measure(0, 0), -49);
        x.tell(2, 0, 0, 1, 94);
        Due.due("-5 by 3", x.measure(0, 0), -1);
        x.tell(2, 0, 0, 1, 7);
        Due.due("2 by 4", x.measure(0, 0), 0);
    }

    private static void grown() {
        TailorHouse x = new TailorHouse();
        x.tell(0, 4, 1, 20, 500);
        Due.due("one day alone", x.grown(4, 1), 0);
        x.tell(1, 4, 1, 20, 503);
        Due.due("one day, two tellings", x.grown(4, 1), 0);
        x.tell(0, 4, 1, 0, 400);
        Due.due("day 0 is a day", x.grown(4, 1), 101);
        x.tell(0, 4, 1, 10, 600);
        Due.due("the day just ahead", x.grown(4, 1), -99);
        x.tell(0, 4, 1, 10, 601);
        Due.due("each mean is cut for itself", x.grown(4, 1), 501 - 600);
        x.tell(0, 4, 2, 15, 9);
        x.tell(0, 3, 1, 15, 9);
        Due.due("neither measure nor body are mixed", x.grown(4, 1), -99);
        x.habit(1, 1, -9);
        Due.due("habits taken off", x.grown(4, 1), 506 - 600);
        x.habit(0, 1, 50);
        Due.due("habits on both days", x.grown(4, 1), 481 - 550);
    }

    private static void found() {
        TailorHouse x = new TailorHouse();
        Due.due("nobody told", x.found(0, 0, 1), -1001);
        Due.due("a hand with itself, nothing told", x.found(0, 0, 0), -1001);
        x.tell(0, 0, 0, 1, 100);
        x.tell(1, 0, 0, 2, 100);
        Due.due("not of one day", x.found(0, 0, 1), -1001);
        x.tell(1, 1, 0, 1, 100);
        Due.due("not of one body", x.found(0, 0, 1), -1001);
        x.tell(1, 0, 1, 1, 100);
        Due.due("not of one measure", x.found(0, 0, 1), -1001);
        Due.due("a hand with itself", x.found(0, 0, 0), 0);
        Due.due("a hand with itself on a measure not told", x.found(1, 0, 0), -1001);
        x.tell(1, 0, 0, 1, 107);
        Due.due("one pair", x.found(0, 0, 1), -7);
        Due.due("the other way", x.found(0, 1, 0), 7);
        x.habit(0, 0, 30);
        Due.due("as told, no habit taken off", x.found(0, 0, 1), -7);
        x.tell(1, 0, 0, 1, 98);
        Due.due("-5 by 2", x.found(0, 0, 1), -2);
        Due.due("5 by 2", x.found(0, 1, 0), 2);
        x.tell(0, 0, 0, 1, 120);
        Due.due("all four pairs: 30 by 4", x.found(0, 0, 1), 7);
        Due.due("with itself, two of a day", x.found(0, 1, 1), 0);
        x.tell(0, 2, 0, 9, 10);
        x.tell(1, 2, 0, 9, 1010);
        Due.due("of all bodies: -970 by 5", x.found(0, 0, 1), -194);
        Due.due("another measure", x.found(1, 0, 1), -1001);
    }

    private static void badQuestions() {
        TailorHouse x = new TailorHouse();
        int[] bad = {-1, 6, 7, MAX, MIN};
        for (int v : bad) {
            Due.due("measure, body " + v, x.measure(v, 0), TailorHouse.BAD);
            Due.due("measure, measure " + v, x.measure(0, v), TailorHouse.BAD);
            Due.due("grown, body " + v, x.grown(v, 0), -10000);
            Due.due("grown, measure " + v, x.grown(0, v), -10000);
            Due.due("found, measure " + v, x.found(v, 0, 0), -2000);
        }
        int[] badHands = {-1, 4, MAX, MIN};
        for (int v : badHands) {
            Due.due("found, s " + v, x.found(0, v, 0), -2000);
            Due.due("found, t " + v, x.found(0, 0, v), -2000);
        }
        Due.due("found, greatest", x.found(5, 3, 3), -1001);
    }
}
