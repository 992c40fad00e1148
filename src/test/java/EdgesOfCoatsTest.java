import java.math.BigInteger;

/** The document's sentences on coats, counts and the digest that name an edge: a test for each. */
public final class EdgesOfCoatsTest {
    private static final int BAD = TailorHouse.BAD, FULL = TailorHouse.FULL, NONE = TailorHouse.NONE;

    public static void main(String[] args) {
        sixCoats();
        hoursFrom1To50();
        promisedFrom0To1000();
        cutSewnFinished();
        asSoonAsBothAreFree();
        lateBehindWhatIsPromised();
        earlyMakesUpForNothing();
        leastLateThenEndThenNumbers();
        farthestCoats();
        noCoats();
        whatOfTheBest();
        coatAtAlone();
        coatAtNotSoMany();
        clearAll();
        clearAndBeginAnew();
        counts();
        countsOfWhat();
        digestOfNothing();
        digestWrapsAround();
        digestSeesEachPart();
        Due.end();
    }

    private static TailorHouse house(int[]... coats) {
        return Houses.withCoats(coats);
    }

    private static int[] coat(int cutter, int sewer, int finisher, int promised) {
        return new int[] {cutter, sewer, finisher, promised};
    }

    private static void best(TailorHouse x, int late, int end, int... order) {
        for (int i = 0; i < order.length; i++) {
            Due.due("coatAt " + i, x.coatAt(i), order[i]);
        }
        Due.due("late", x.best(0), late);
        Due.due("end", x.best(1), end);
    }

    private static void sixCoats() {
        Due.about("COATS 0 .. 5, as they come; FULL: 6");
        TailorHouse x = new TailorHouse();
        for (int i = 0; i < 6; i++) {
            Due.due("coat " + i, x.coat(1, 1, 1, 100), i);
        }
        Due.due("a seventh", x.coat(1, 1, 1, 100), FULL);
        Due.due("BAD ahead of FULL", x.coat(1, 1, 51, 100), BAD);
        Due.due("6 coats", x.count(4), 6);
        best(x, 0, 8, 0, 1, 2, 3, 4, 5);
    }

    private static void hoursFrom1To50() {
        Due.about("need (1 .. 50) hours of CUTTER, SEWER, FINISHER, each");
        TailorHouse x = new TailorHouse();
        Due.refusedOutside("coat cutter", 1, 50, BAD, h -> x.coat(h, 1, 1, 0));
        Due.refusedOutside("coat sewer", 1, 50, BAD, h -> x.coat(1, h, 1, 0));
        Due.refusedOutside("coat finisher", 1, 50, BAD, h -> x.coat(1, 1, h, 0));
        Due.due("none", x.count(4), 0);
        Due.due("least", x.coat(1, 1, 1, 3), 0);
        best(x, 0, 3, 0);
        for (int hand = 0; hand < 3; hand++) {
            int[] c = coat(1, 1, 1, 52);
            c[hand] = 50;
            best(house(c), 0, 52, 0);
        }
    }

    private static void promisedFrom0To1000() {
        Due.about("promised for an hour (0 .. 1000)");
        TailorHouse x = new TailorHouse();
        Due.refusedOutside("coat promised", 0, 1000, BAD, promised -> x.coat(1, 1, 1, promised));
        Due.due("none", x.count(4), 0);
        Due.due("for hour 0", x.coat(1, 1, 1, 0), 0);
        Due.due("for hour 1000", x.coat(1, 1, 1, 1000), 1);
        best(x, 3, 4, 0, 1);
    }

    private static void cutSewnFinished() {
        Due.about("of CUTTER, SEWER, FINISHER, each, in this order");
        // the first coat goes 2, 12, 15, the second 6, 13, 23
        best(house(coat(2, 10, 3, 15), coat(4, 1, 8, 23)), 0, 23, 0, 1);
        best(house(coat(10, 2, 3, 15), coat(4, 1, 8, 12)), 5, 19, 1, 0);
    }

    private static void asSoonAsBothAreFree() {
        Due.about("as soon as it and the COAT are free");
        best(house(coat(1, 10, 1, 12), coat(1, 1, 1, 13)), 0, 13, 0, 1);
        best(house(coat(1, 10, 1, 12), coat(1, 1, 1, 12)), 1, 13, 0, 1);
        // the second coat is cut by 2, and waits for the sewer until 11
        best(house(coat(1, 10, 1, 12), coat(1, 5, 1, 17)), 0, 17, 0, 1);
        best(house(coat(1, 1, 10, 12), coat(1, 1, 1, 13)), 0, 13, 0, 1);
        best(house(coat(1, 1, 1, 3), coat(10, 1, 1, 13)), 0, 13, 0, 1);
    }

    private static void lateBehindWhatIsPromised() {
        Due.about("LATE: the sum of hours by which COATS end behind what is promised");
        best(house(coat(1, 2, 3, 6)), 0, 6, 0);
        best(house(coat(1, 2, 3, 5)), 1, 6, 0);
        best(house(coat(1, 2, 3, 7)), 0, 6, 0);
        best(house(coat(1, 2, 3, 0)), 6, 6, 0);
        best(house(coat(1, 1, 1, 0), coat(1, 1, 1, 0)), 7, 4, 0, 1);
    }

    private static void earlyMakesUpForNothing() {
        Due.about("LATE: a COAT ahead of its hour takes nothing off");
        best(house(coat(5, 5, 5, 14), coat(5, 5, 5, 1000)), 1, 20, 0, 1);
        best(house(coat(5, 5, 5, 1000), coat(5, 5, 5, 14)), 1, 20, 1, 0);
    }

    private static void leastLateThenEndThenNumbers() {
        Due.about("THE BEST ORDER: least LATE, then least end of all, then the first by numbers");
        best(house(coat(1, 1, 9, 20), coat(9, 1, 1, 11)), 0, 20, 1, 0);
        best(house(coat(9, 1, 1, 1000), coat(1, 1, 9, 1000)), 0, 12, 1, 0);
        best(house(coat(2, 2, 2, 1000), coat(2, 2, 2, 1000)), 0, 8, 0, 1);
        best(house(coat(2, 2, 2, 99), coat(2, 2, 2, 99), coat(2, 2, 2, 6)), 0, 10, 2, 0, 1);
        best(house(coat(2, 2, 2, 99), coat(2, 2, 2, 6), coat(2, 2, 2, 99)), 0, 10, 1, 0, 2);
        best(house(coat(2, 2, 2, 99), coat(2, 2, 2, 0), coat(2, 2, 2, 0)), 14, 10, 1, 2, 0);
    }

    private static void farthestCoats() {
        Due.about("six COATS of 50 hours each, promised for hour 0");
        int[][] coats = new int[6][];
        for (int i = 0; i < 6; i++) {
            coats[i] = coat(50, 50, 50, 0);
        }
        best(house(coats), 150 + 200 + 250 + 300 + 350 + 400, 400, 0, 1, 2, 3, 4, 5);
        coats[5] = coat(1, 1, 1, 0);
        best(house(coats), 3 + 151 + 201 + 251 + 301 + 351, 351, 5, 0, 1, 2, 3, 4);
    }

    private static void noCoats() {
        Due.about("THE BEST ORDER of no COATS");
        best(new TailorHouse(), 0, 0);
        TailorHouse x = house(coat(50, 50, 50, 0), coat(50, 50, 50, 0));
        best(x, 350, 200, 0, 1);
        x.clear();
        best(x, 0, 0);
        Due.due("BAD with no coats", x.best(2), BAD);
    }

    private static void whatOfTheBest() {
        Due.about("LATE (0), the end of all (1). BAD");
        TailorHouse x = house(coat(1, 2, 3, 4));
        Due.refusedOutside("best", 0, 1, BAD, x::best);
        best(x, 2, 6, 0);
    }

    private static void coatAtAlone() {
        Due.about("The i-th COAT of it, asked ahead of all else");
        TailorHouse x = house(coat(2, 2, 2, 99), coat(2, 2, 2, 6));
        Due.due("the first", x.coatAt(0), 1);
        x.clear();
        x.coat(2, 2, 2, 6);
        x.coat(2, 2, 2, 99);
        Due.due("the last, of others", x.coatAt(1), 1);
        x.coat(1, 1, 1, 3);
        Due.due("the first, with one more", x.coatAt(0), 2);
    }

    private static void coatAtNotSoMany() {
        Due.about("The i-th COAT of it. NONE: not so many");
        TailorHouse x = new TailorHouse();
        Due.due("of none", x.coatAt(0), NONE);
        for (int many = 1; many <= 6; many++) {
            x.coat(1, 1, 1, 1000);
            Due.due("the last of " + many, x.coatAt(many - 1), many - 1);
            Due.due("behind the last of " + many, x.coatAt(many), NONE);
        }
        Due.refusedOutside("coatAt", 0, 5, NONE, x::coatAt);
    }

    private static void clearAll() {
        Due.about("All COATS go: how many");
        TailorHouse x = new TailorHouse();
        Due.due("none", x.clear(), 0);
        for (int many = 1; many <= 6; many++) {
            for (int i = 0; i < many; i++) {
                x.coat(1, 1, 1, 0);
            }
            Due.due("clear", x.clear(), many);
            Due.due("none are left", x.count(4), 0);
            Due.due("not one", x.coatAt(0), NONE);
            Due.due("clear again", x.clear(), 0);
        }
        TailorHouse full = Houses.full();
        full.coat(1, 1, 1, 1);
        Due.due("a refused one does not go", full.clear(), 6);
        int[] others = {40, 20, 7, 10};
        for (int what = 0; what < 4; what++) {
            Due.due("all else stays", full.count(what), others[what]);
        }
    }

    private static void clearAndBeginAnew() {
        Due.about("All COATS go: there is room for six again");
        TailorHouse x = house(coat(50, 50, 50, 0), coat(50, 50, 50, 0), coat(50, 50, 50, 0),
            coat(50, 50, 50, 0), coat(50, 50, 50, 0), coat(50, 50, 50, 0));
        x.clear();
        for (int i = 0; i < 6; i++) {
            Due.due("coat " + i, x.coat(1, 1, 1, 6 - i), i);
            Due.due("end of " + i, x.best(1), i + 3);
        }
        Due.due("a seventh", x.coat(1, 1, 1, 0), FULL);
    }

    private static void counts() {
        Due.about("How many: 0 tellings, 1 POINTS, 2 PIECES, 3 SEAMS, 4 COATS");
        TailorHouse x = Houses.half();
        int[] want = {2, 4, 2, 1, 2};
        for (int what = 0; what < 5; what++) {
            Due.due("count " + what, x.count(what), want[what]);
        }
        x.more(0, 3);
        x.habit(0, 0, 1);
        x.cloth(9, 9);
        for (int what = 0; what < 5; what++) {
            Due.due("count " + what + " still", x.count(what), want[what]);
        }
    }

    private static void countsOfWhat() {
        Due.about("count: BAD");
        TailorHouse x = Houses.full();
        Due.refusedOutside("count", 0, 4, BAD, x::count);
        Due.refusedOutside("count, empty", 0, 4, BAD, new TailorHouse()::count);
    }

    private static long digestOf(long... values) {
        BigInteger h = BigInteger.valueOf(233);
        for (long v : values) {
            h = h.multiply(BigInteger.valueOf(31)).add(BigInteger.valueOf(v));
        }
        return h.longValue();
    }

    private static void digestOfNothing() {
        Due.about("h = 233; then h = 31 h + v: nothing is there");
        Due.due("five counts, 36 measures, all 0", new TailorHouse().digest(), digestOf(new long[41]));
        TailorHouse x = new TailorHouse();
        x.habit(0, 0, 50);
        x.cloth(7, 7);
        Due.due("neither habits nor cloth are in it", x.digest(), digestOf(new long[41]));
    }

    private static void digestWrapsAround() {
        Due.about("h = 31 h + v (long), numbers below 0 too");
        TailorHouse x = new TailorHouse();
        x.tell(0, 0, 0, 0, 0);
        x.tell(0, 5, 5, 10000, 3000);
        x.tell(0, 1, 0, 10000, 1);
        x.habit(0, 0, 50);
        x.fixed(-5000, 5000);
        x.by(0, 0, 20, 1, 1);
        x.by(0, 5, 20, 1, 0);
        x.piece(2, 1, 0, NONE);
        x.seam(0, 2, 0, 1);
        x.coat(50, 49, 48, 1000);
        long[] v = new long[5 + 36 + 6 + 4 + 4 + 4];
        long[] counts = {3, 3, 1, 1, 1};
        System.arraycopy(counts, 0, v, 0, 5);
        v[5] = -50;
        v[5 + 6] = -49;
        v[5 + 35] = 3000;
        long[] rest = {-5000, 5000, -5000, 4000, -5000, 5000, 3, 2, 1, 0, 0, 2, 0, 1, 50, 49, 48, 1000};
        System.arraycopy(rest, 0, v, 41, rest.length);
        Due.due("points for body 0 alone", x.digest(), digestOf(v));
        Due.due("asked of another body, then again", x.at(5, 2, 0), 55000);
        Due.due("for body 0 still", x.digest(), digestOf(v));
    }

    private static void digestSeesEachPart() {
        Due.about("digest: of PIECES how many POINTS; of SEAMS PIECE, side, PIECE, side; of COATS hours, promised");
        long before = Houses.half().digest();
        TailorHouse more = Houses.half();
        more.more(0, 0);
        Due.holds("a point more of a piece", more.digest() != before);
        TailorHouse habit = Houses.half();
        habit.habit(1, 0, 9);
        Due.holds("a habit that moves a measure", habit.digest() != before);
        TailorHouse earlier = Houses.half();
        earlier.tell(0, 0, 0, 2, 9);
        Due.holds("a telling that moves no measure", earlier.digest() != before);
        TailorHouse cleared = Houses.half();
        cleared.clear();
        cleared.coat(3, 3, 3, 9);
        cleared.coat(1, 5, 1, 7);
        Due.due("the same coats anew", cleared.digest(), before);
        TailorHouse turned = Houses.half();
        turned.clear();
        turned.coat(1, 5, 1, 7);
        turned.coat(3, 3, 3, 9);
        Due.holds("coats as they come", turned.digest() != before);
    }
}
