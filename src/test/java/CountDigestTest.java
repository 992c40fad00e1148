/** Promises 1, 26 and 27: how many there are, and the digest of all. */
public final class CountDigestTest {
    private static final int MAX = Due.MAX, MIN = Due.MIN;

    public static void main(String[] args) {
        counts();
        digestOfNothing();
        digestOfAll();
        questionsChangeNothing();
        Due.end();
    }

    private static long digestOf(long... values) {
        long h = 233;
        for (long v : values) {
            h = 31 * h + v;
        }
        return h;
    }

    private static TailorHouse withSome() {
        TailorHouse x = new TailorHouse();
        x.tell(0, 0, 0, 3, 100);
        x.tell(1, 5, 5, 3, 70);
        x.tell(1, 2, 1, 3, 40);
        x.fixed(-4, 9);
        x.by(0, 0, 1, 2, 1);
        x.piece(0, 1, 1, -1);
        x.piece(1, 0, 0, 1);
        x.more(1, 1);
        x.seam(0, 2, 1, 4);
        x.coat(11, 12, 13, 14);
        x.coat(21, 22, 23, 24);
        return x;
    }

    private static void counts() {
        TailorHouse x = withSome();
        int[] want = {3, 2, 2, 1, 2};
        for (int what = 0; what < want.length; what++) {
            Due.due("count " + what, x.count(what), want[what]);
        }
        int[] bad = {-1, 5, MAX, MIN};
        for (int what : bad) {
            Due.due("count bad", x.count(what), TailorHouse.BAD);
        }
        x.clear();
        Due.due("coats gone", x.count(4), 0);
    }

    private static void digestOfNothing() {
        Due.due("new", new TailorHouse().digest(), digestOf(new long[41]));
    }

    private static void digestOfAll() {
        TailorHouse x = withSome();
        x.habit(1, 5, 1);
        long want = digestOf(
            3, 2, 2, 1, 2,
            100, 0, 0, 0, 0, 0,
            0, 0, 0, 0, 0, 0,
            0, 40, 0, 0, 0, 0,
            0, 0, 0, 0, 0, 0,
            0, 0, 0, 0, 0, 0,
            0, 0, 0, 0, 0, 69,
            -4, 9, -4, 59,
            3, 0, 1, 1,
            5, 1, 0, 0, 1, 1,
            0, 2, 1, 4,
            11, 12, 13, 14,
            21, 22, 23, 24);
        Due.due("all", x.digest(), want);
    }

    private static void questionsChangeNothing() {
        TailorHouse x = withSome();
        long before = x.digest();
        x.measure(0, 0);
        x.grown(0, 0);
        x.found(0, 0, 1);
        x.at(5, 1, 1);
        x.length(5, 0, 0);
        x.area(5, 0);
        x.gaps(5, 0);
        x.hangs(0, 0);
        x.cloth(7, 7);
        x.laid(5);
        x.laidAt(5, 0);
        x.best(0);
        x.coatAt(0);
        x.count(0);
        Due.due("as it was, at body 0 still", x.digest(), before);
    }
}
