import java.util.List;
import java.util.function.Supplier;

/**
 * "Refused, changing nothing, the first of: BAD -2 a number is not as told; NO -3 as told; FULL -4."
 * Every call, every number of it below and above what is told, on an empty, a half and a full house.
 */
public final class RefusalsTest {
    private static final int BAD = TailorHouse.BAD, NO = TailorHouse.NO, FULL = TailorHouse.FULL;
    private static final int[] HAND = {0, 3}, BODY = {0, 5}, MEASURE = {0, 5}, DAY = {0, 10000};
    private static final int[] PLACE = {-5000, 5000}, ONE_OF_TWO = {0, 1}, HOURS = {1, 50};

    private interface Ask {
        long of(TailorHouse x, int[] a);
    }

    /** A call, what it answers to a number that is not as told, and what is told of each number. */
    private record Call(String name, long bad, Ask ask, int[]... ranges) { }

    public static void main(String[] args) {
        badIsRefused("an empty house", TailorHouse::new, calls(0, 0, 0));
        badIsRefused("a half house", Houses::half, calls(4, 2, 3));
        badIsRefused("a full house, BAD ahead of FULL", Houses::full, calls(20, 7, 8));
        edgesAreTaken();
        pointsAndPiecesThatAreNotThere();
        noAheadOfNone();
        badAheadOfNo();
        fullIsRefused();
        fullHouseIsFull();
        Due.end();
    }

    /** All calls that may answer BAD, in a house of so many points and pieces of so many sides. */
    private static List<Call> calls(int points, int pieces, int sides) {
        int[] point = {0, points - 1};
        int[] pointOrNone = {-1, points - 1};
        int[] piece = {0, pieces - 1};
        int[] side = {0, sides - 1};
        return List.of(
            new Call("tell", BAD, (x, a) -> x.tell(a[0], a[1], a[2], a[3], a[4]),
                HAND, BODY, MEASURE, DAY, new int[] {0, 3000}),
            new Call("habit", -1000, (x, a) -> x.habit(a[0], a[1], a[2]), HAND, MEASURE, new int[] {-50, 50}),
            new Call("measure", BAD, (x, a) -> x.measure(a[0], a[1]), BODY, MEASURE),
            new Call("grown", -10000, (x, a) -> x.grown(a[0], a[1]), BODY, MEASURE),
            new Call("found", -2000, (x, a) -> x.found(a[0], a[1], a[2]), MEASURE, HAND, HAND),
            new Call("fixed", BAD, (x, a) -> x.fixed(a[0], a[1]), PLACE, PLACE),
            new Call("off", BAD, (x, a) -> x.off(a[0], a[1], a[2]), point, PLACE, PLACE),
            new Call("by", BAD, (x, a) -> x.by(a[0], a[1], a[2], a[3], a[4]),
                point, MEASURE, new int[] {-20, 20}, new int[] {1, 20}, ONE_OF_TWO),
            new Call("middle", BAD, (x, a) -> x.middle(a[0], a[1]), point, point),
            new Call("at", -2000000000, (x, a) -> x.at(a[0], a[1], a[2]), BODY, point, ONE_OF_TWO),
            new Call("piece", BAD, (x, a) -> x.piece(a[0], a[1], a[2], a[3]), point, point, point, pointOrNone),
            new Call("more", BAD, (x, a) -> x.more(a[0], a[1]), piece, point),
            new Call("length", BAD, (x, a) -> x.length(a[0], a[1], a[2]), BODY, piece, side),
            new Call("area", BAD, (x, a) -> x.area(a[0], a[1]), BODY, piece),
            new Call("seam", BAD, (x, a) -> x.seam(a[0], a[1], a[2], a[3]), piece, side, piece, side),
            new Call("gaps", BAD, (x, a) -> x.gaps(a[0], a[1]), BODY, new int[] {0, 100}),
            new Call("hangs", BAD, (x, a) -> x.hangs(a[0], a[1]), MEASURE, ONE_OF_TWO),
            new Call("cloth", BAD, (x, a) -> x.cloth(a[0], a[1]), new int[] {1, 5000}, new int[] {1, 500}),
            new Call("laid", BAD, (x, a) -> x.laid(a[0]), BODY),
            new Call("laidAt", BAD, (x, a) -> x.laidAt(a[0], 0), BODY),
            new Call("coat", BAD, (x, a) -> x.coat(a[0], a[1], a[2], a[3]),
                HOURS, HOURS, HOURS, new int[] {0, 1000}),
            new Call("best", BAD, (x, a) -> x.best(a[0]), ONE_OF_TWO),
            new Call("count", BAD, (x, a) -> x.count(a[0]), new int[] {0, 4}));
    }

    /** A number of each range; 0 where nothing is as told yet. */
    private static int[] goodFor(Call call) {
        int[] a = new int[call.ranges.length];
        for (int k = 0; k < a.length; k++) {
            a[k] = Math.max(call.ranges[k][0], (call.ranges[k][0] + call.ranges[k][1]) / 2);
        }
        return a;
    }

    private static void badIsRefused(String state, Supplier<TailorHouse> make, List<Call> calls) {
        Due.about("Refused, changing nothing: BAD");
        List<Long> before = Snapshot.of(make.get());
        for (Call call : calls) {
            for (int k = 0; k < call.ranges.length; k++) {
                for (int v : Due.outside(call.ranges[k][0], call.ranges[k][1])) {
                    int[] a = goodFor(call);
                    a[k] = v;
                    String told = state + ": " + call.name + ", number " + k + " is " + v;
                    TailorHouse x = make.get();
                    Due.due(told, call.ask.of(x, a), call.bad);
                    Due.holds(told + ": nothing is changed", Snapshot.of(x).equals(before));
                }
            }
        }
    }

    private static void edgesAreTaken() {
        Due.about("a number that is just as told is no BAD");
        for (Call call : calls(4, 2, 3)) {
            for (int k = 0; k < call.ranges.length; k++) {
                for (int v : call.ranges[k]) {
                    int[] a = goodFor(call);
                    a[k] = v;
                    Due.holds(call.name + ", number " + k + " is " + v, call.ask.of(Houses.half(), a) != call.bad);
                }
            }
        }
    }

    private static void pointsAndPiecesThatAreNotThere() {
        Due.about("BAD: an empty house has neither POINTS nor PIECES nor sides");
        TailorHouse x = new TailorHouse();
        Due.due("off", x.off(0, 0, 0), BAD);
        Due.due("by", x.by(0, 0, 1, 1, 0), BAD);
        Due.due("middle", x.middle(0, 0), BAD);
        Due.due("at", x.at(0, 0, 0), -2000000000);
        Due.due("piece of four", x.piece(0, 0, 0, 0), BAD);
        Due.due("piece of three", x.piece(0, 0, 0, -1), BAD);
        Due.due("more", x.more(0, 0), BAD);
        Due.due("length", x.length(0, 0, 0), BAD);
        Due.due("area", x.area(0, 0), BAD);
        Due.due("seam", x.seam(0, 0, 0, 0), BAD);
        x.fixed(0, 0);
        Due.due("more of a point that is, to a piece that is not", x.more(0, 0), BAD);
        Due.due("length, pieces are not there yet", x.length(0, 0, 0), BAD);
        Due.due("area, pieces are not there yet", x.area(0, 0), BAD);
    }

    private static void noAheadOfNone() {
        Due.about("NO: there are no PIECES");
        TailorHouse x = withPointAndCoat();
        List<Long> before = Snapshot.of(withPointAndCoat());
        for (int body = 0; body < 6; body++) {
            Due.due("laid", x.laid(body), NO);
            for (int i : new int[] {-1, 0, 6, 7, Due.MAX, Due.MIN}) {
                Due.due("laidAt " + i, x.laidAt(body, i), NO);
            }
        }
        Due.holds("nothing is changed", Snapshot.of(x).equals(before));
    }

    private static TailorHouse withPointAndCoat() {
        TailorHouse x = new TailorHouse();
        x.fixed(0, 0);
        x.coat(1, 1, 1, 1);
        return x;
    }

    private static void badAheadOfNo() {
        Due.about("the first of: BAD; NO");
        TailorHouse x = new TailorHouse();
        Due.refusedOutside("laid", 0, 5, BAD, x::laid);
        Due.refusedOutside("laidAt", 0, 5, BAD, body -> x.laidAt(body, 0));
        Due.refusedOutside("laidAt, not so many", 0, 5, BAD, body -> x.laidAt(body, 7));
        Houses.addPiece(x, 1501, 1);
        Due.due("a piece too wide is NONE", x.laid(5), TailorHouse.NONE);
        Due.refusedOutside("laid, BAD ahead of NONE", 0, 5, BAD, x::laid);
        Due.refusedOutside("laidAt, BAD ahead of NONE", 0, 5, BAD, body -> x.laidAt(body, 0));
    }

    private static void fullIsRefused() {
        Due.about("Refused, changing nothing: FULL");
        List<Long> before = Snapshot.of(Houses.full());
        List<String> filling = List.of("tell", "fixed", "off", "by", "middle", "piece", "more", "seam", "coat");
        for (Call call : calls(20, 7, 8)) {
            if (filling.contains(call.name)) {
                TailorHouse x = Houses.full();
                Due.due(call.name, call.ask.of(x, goodFor(call)), FULL);
                Due.due(call.name + " again", call.ask.of(x, goodFor(call)), FULL);
                Due.holds(call.name + ": nothing is changed", Snapshot.of(x).equals(before));
            }
        }
    }

    private static void fullHouseIsFull() {
        Due.about("40 tellings, 20 POINTS, 7 PIECES of 8, 10 SEAMS, 6 COATS at most");
        int[] most = {40, 20, 7, 10, 6};
        TailorHouse x = Houses.full();
        for (int what = 0; what < most.length; what++) {
            Due.due("count " + what, x.count(what), most[what]);
        }
        for (int piece = 0; piece < 7; piece++) {
            Due.due("a point more of " + piece, x.more(piece, 0), FULL);
        }
        Due.due("a piece of three", x.piece(0, 1, 2, -1), FULL);
    }
}
