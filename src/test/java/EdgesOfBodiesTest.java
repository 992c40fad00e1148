/** The document's sentences on bodies, tellings and habits that name an edge: a test for each. */
public final class EdgesOfBodiesTest {
    private static final int BAD = TailorHouse.BAD, FULL = TailorHouse.FULL, NO_PAIR = -1001;

    public static void main(String[] args) {
        newObject();
        objectsAreApart();
        callUpTo512();
        sixBodies();
        sixMeasures();
        fourHands();
        toldFrom0To3000();
        daysFrom0To10000();
        eachTellingIsKept();
        fortyOfAll();
        fortyOfOne();
        habitsFromMinus50To50();
        habitsAre0AtFirst();
        habitTellsWhatItWas();
        habitOfAHandForAMeasure();
        latestDay();
        allTellingsOfTheDay();
        meanIsCutTowardZero();
        measuresBeyondWhatIsTold();
        noTelling();
        grownOfNothing();
        grownOfOneDay();
        grownSinceTheDayAhead();
        grownFarthest();
        foundWithoutPair();
        foundOfAllPairs();
        foundIsCutTowardZero();
        foundFarthest();
        handWithItself();
        Due.end();
    }

    private static void newObject() {
        Due.about("No tellings, HABITS 0, no POINTS, PIECES, SEAMS, COATS");
        TailorHouse x = new TailorHouse();
        for (int what = 0; what <= 4; what++) {
            Due.due("count " + what, x.count(what), 0);
        }
        for (int i = 0; i < 36; i++) {
            Due.due("measure", x.measure(i / 6, i % 6), 0);
            Due.due("grown", x.grown(i / 6, i % 6), 0);
        }
        for (int i = 0; i < 6; i++) {
            Due.due("found", x.found(i, 0, 1), NO_PAIR);
            Due.due("hanging points", x.hangs(i, 0), 0);
            Due.due("hanging pieces", x.hangs(i, 1), 0);
            Due.due("gaps", x.gaps(i, 0), TailorHouse.NONE);
            Due.due("laid", x.laid(i), TailorHouse.NO);
            Due.due("coatAt", x.coatAt(i), TailorHouse.NONE);
        }
        Due.due("first telling", x.tell(0, 0, 0, 0, 0), 1);
        Due.due("first coat", x.coat(1, 1, 1, 0), 0);
        Due.due("first point", x.fixed(0, 0), 0);
        Due.due("first piece", x.piece(0, 0, 0, -1), 0);
        Due.due("first seam", x.seam(0, 0, 0, 1), 0);
    }

    private static void objectsAreApart() {
        Due.about("A new object, beside a full one");
        TailorHouse before = new TailorHouse();
        TailorHouse full = Houses.full();
        long digest = full.digest();
        TailorHouse x = new TailorHouse();
        long empty = before.digest();
        Due.due("made behind the full one", x.digest(), empty);
        Due.due("habit", x.habit(3, 5, 50), 0);
        Due.due("tell", x.tell(0, 0, 0, 10000, 3000), 1);
        Due.due("fixed", x.fixed(9, 9), 0);
        Due.due("coat", x.coat(1, 1, 1, 1), 0);
        Due.due("cloth", x.cloth(1, 1), 1);
        Due.due("the full one is as it was", full.digest(), digest);
        Due.due("the empty one is as it was", before.digest(), empty);
    }

    private static void callUpTo512() {
        Due.about("An object is used for at most 512 calls");
        TailorHouse x = new TailorHouse();
        for (int call = 1; call <= 508; call++) {
            Due.due("telling at call " + call, x.tell(call % 4, 0, 0, call, call), call <= 40 ? call : FULL);
        }
        Due.due("call 509", x.measure(0, 0), 40);
        Due.due("call 510", x.habit(0, 0, 7), 0);
        Due.due("call 511", x.measure(0, 0), 33);
        Due.due("call 512", x.grown(0, 0), -6);
    }

    private static void sixBodies() {
        Due.about("BODIES 0 .. 5");
        TailorHouse x = new TailorHouse();
        for (int body = 0; body <= 5; body++) {
            Due.due("tell of " + body, x.tell(0, body, 3, 1, 100 + body), body + 1);
        }
        Due.refusedOutside("tell of body", 0, 5, BAD, body -> x.tell(0, body, 3, 1, 1));
        Due.refusedOutside("measure of body", 0, 5, BAD, body -> x.measure(body, 3));
        Due.refusedOutside("grown of body", 0, 5, -10000, body -> x.grown(body, 3));
        for (int body = 0; body <= 5; body++) {
            Due.due("measure of " + body, x.measure(body, 3), 100 + body);
        }
        Due.due("none more", x.count(0), 6);
    }

    private static void sixMeasures() {
        Due.about("MEASURES 0 .. 5");
        TailorHouse x = new TailorHouse();
        for (int measure = 0; measure <= 5; measure++) {
            Due.due("tell " + measure, x.tell(0, 4, measure, 1, 100 + measure), measure + 1);
        }
        x.tell(0, 5, 0, 1, 7);
        x.tell(1, 3, 5, 1, 8);
        Due.refusedOutside("tell measure", 0, 5, BAD, measure -> x.tell(0, 4, measure, 1, 1));
        Due.refusedOutside("measure", 0, 5, BAD, measure -> x.measure(4, measure));
        Due.refusedOutside("grown", 0, 5, -10000, measure -> x.grown(4, measure));
        Due.refusedOutside("found", 0, 5, -2000, measure -> x.found(measure, 0, 0));
        Due.refusedOutside("habit", 0, 5, -1000, measure -> x.habit(1, measure, 9));
        for (int measure = 0; measure <= 5; measure++) {
            Due.due("measure " + measure, x.measure(4, measure), 100 + measure);
            Due.due("found " + measure, x.found(measure, 0, 0), 0);
        }
        Due.due("none more", x.count(0), 8);
    }

    private static void fourHands() {
        Due.about("HANDS 0 .. 3");
        TailorHouse x = new TailorHouse();
        for (int hand = 0; hand <= 3; hand++) {
            Due.due("tell by " + hand, x.tell(hand, 0, 0, 1, 10 * hand), hand + 1);
        }
        Due.refusedOutside("tell by hand", 0, 3, BAD, hand -> x.tell(hand, 0, 0, 1, 1));
        Due.refusedOutside("habit of hand", 0, 3, -1000, hand -> x.habit(hand, 0, 1));
        Due.refusedOutside("found of s", 0, 3, -2000, s -> x.found(0, s, 3));
        Due.refusedOutside("found of t", 0, 3, -2000, t -> x.found(0, 3, t));
        for (int pair = 0; pair < 16; pair++) {
            Due.due("found", x.found(0, pair / 4, pair % 4), 10 * (pair / 4 - pair % 4));
        }
        Due.due("none more", x.measure(0, 0), 15);
    }

    private static void toldFrom0To3000() {
        Due.about("MEASURES (0 .. 3000 each)");
        TailorHouse x = new TailorHouse();
        Due.refusedOutside("tell", 0, 3000, BAD, v -> x.tell(0, 0, 0, 1, v));
        Due.due("none told", x.measure(0, 0), 0);
        Due.due("tell 3000", x.tell(0, 0, 0, 1, 3000), 1);
        Due.due("3000", x.measure(0, 0), 3000);
        Due.due("tell 0", x.tell(0, 0, 0, 2, 0), 2);
        Due.due("0", x.measure(0, 0), 0);
        Due.due("a telling of 0 is a telling", x.grown(0, 0), -3000);
    }

    private static void daysFrom0To10000() {
        Due.about("a DAY (0 .. 10000)");
        TailorHouse x = new TailorHouse();
        Due.refusedOutside("tell", 0, 10000, BAD, day -> x.tell(0, 0, 0, day, 5));
        Due.due("none told", x.count(0), 0);
        Due.due("day 0", x.tell(0, 0, 0, 0, 10), 1);
        Due.due("of day 0", x.measure(0, 0), 10);
        Due.due("day 10000", x.tell(0, 0, 0, 10000, 70), 2);
        Due.due("of day 10000", x.measure(0, 0), 70);
        Due.due("day 9999", x.tell(0, 0, 0, 9999, 30), 3);
        Due.due("of day 10000 still", x.measure(0, 0), 70);
        Due.due("from day 9999 to day 10000", x.grown(0, 0), 40);
    }

    private static void eachTellingIsKept() {
        Due.about("each telling is kept");
        TailorHouse x = new TailorHouse();
        Due.due("told", x.tell(2, 1, 1, 1, 10), 1);
        Due.due("told", x.tell(2, 1, 1, 1, 40), 2);
        Due.due("the same hand, both count", x.measure(1, 1), 25);
        Due.due("told again, to the letter", x.tell(2, 1, 1, 1, 40), 3);
        Due.due("all three count", x.measure(1, 1), 30);
        x.tell(2, 1, 1, 2, 99);
        Due.due("those of the day ahead are kept", x.grown(1, 1), 69);
    }

    private static void fortyOfAll() {
        Due.about("40 at most, of all; FULL");
        TailorHouse x = new TailorHouse();
        for (int i = 0; i < 39; i++) {
            Due.due("telling " + (i + 1), x.tell(i % 4, i % 6, i / 6 % 6, i, 50 + i), i + 1);
        }
        Due.due("telling 40", x.tell(3, 5, 5, 9, 40), 40);
        for (int body = 0; body < 6; body++) {
            Due.due("telling 41, of " + body, x.tell(0, body, body, 10000, 3000), FULL);
        }
        Due.due("telling 41, to the letter as the 40th", x.tell(3, 5, 5, 9, 40), FULL);
        Due.due("BAD ahead of FULL", x.tell(0, 0, 0, 0, 3001), BAD);
        Due.due("40 kept", x.count(0), 40);
        Due.due("the first is kept", x.measure(0, 1), 56);
        Due.due("the 39th is kept", x.measure(2, 0), 88);
        Due.due("the 40th is kept", x.measure(5, 5), 85);
        Due.due("the 40th is of its day", x.grown(5, 5), 45);
    }

    private static void fortyOfOne() {
        Due.about("of all tellings of the latest DAY: 40 of one");
        TailorHouse x = new TailorHouse();
        for (int i = 0; i < 40; i++) {
            x.tell(i % 4, 0, 0, 7, 2961 + i);
        }
        Due.due("119220 by 40", x.measure(0, 0), 2980);
        Due.due("a row of one measure is full for all", x.tell(0, 5, 5, 7, 1), FULL);
        Due.due("100 pairs, -300", x.found(0, 0, 3), -3);
        Due.due("100 pairs, 300", x.found(0, 3, 0), 3);
    }

    private static void habitsFromMinus50To50() {
        Due.about("HABIT: -50 .. 50; BAD: -1000");
        TailorHouse x = new TailorHouse();
        x.tell(3, 5, 5, 1, 100);
        Due.due("-50", x.habit(3, 5, -50), 0);
        Due.due("taken off", x.measure(5, 5), 150);
        Due.refusedOutside("habit", -50, 50, -1000, v -> x.habit(3, 5, v));
        Due.due("-50 still", x.measure(5, 5), 150);
        Due.due("50", x.habit(3, 5, 50), -50);
        Due.due("taken off", x.measure(5, 5), 50);
        Due.refusedOutside("habit", -50, 50, -1000, v -> x.habit(3, 5, v));
        Due.due("50 still", x.habit(3, 5, 0), 50);
    }

    private static void habitsAre0AtFirst() {
        Due.about("HABIT: 0 at first");
        TailorHouse x = new TailorHouse();
        for (int i = 0; i < 24; i++) {
            Due.due("at first", x.habit(i / 6, i % 6, i + 1), 0);
        }
        for (int i = 0; i < 24; i++) {
            Due.due("each for itself", x.habit(i / 6, i % 6, -i), i + 1);
        }
    }

    private static void habitTellsWhatItWas() {
        Due.about("A HABIT: what it was");
        TailorHouse x = new TailorHouse();
        Due.due("first", x.habit(1, 1, 9), 0);
        Due.due("the same again", x.habit(1, 1, 9), 9);
        Due.due("0 again", x.habit(1, 1, 0), 9);
        Due.due("-1", x.habit(1, 1, -1), 0);
        Due.due("was -1", x.habit(1, 1, 1), -1);
    }

    private static void habitOfAHandForAMeasure() {
        Due.about("HABIT of a HAND for a MEASURE");
        TailorHouse x = new TailorHouse();
        x.tell(1, 0, 0, 1, 100);
        x.tell(1, 5, 0, 1, 200);
        x.tell(0, 0, 5, 1, 300);
        Due.due("measure 6 of hand 0 is not measure 0 of hand 1", x.habit(0, 6, 9), -1000);
        Due.due("measure -1 of hand 2 is not measure 5 of hand 1", x.habit(2, -1, 9), -1000);
        x.habit(0, 0, 11);
        x.habit(1, 5, 12);
        Due.due("another hand, another measure", x.measure(0, 0), 100);
        x.habit(1, 0, 13);
        Due.due("of this hand, for this measure", x.measure(0, 0), 87);
        Due.due("for every body", x.measure(5, 0), 187);
        Due.due("the others are free of it", x.measure(0, 5), 300);
        x.tell(1, 2, 0, 3, 50);
        Due.due("for tellings behind it too", x.measure(2, 0), 37);
    }

    private static void latestDay() {
        Due.about("of the latest DAY told of it");
        TailorHouse x = new TailorHouse();
        x.tell(0, 2, 2, 5, 10);
        x.tell(0, 2, 2, 4, 90);
        Due.due("a day ahead, told behind", x.measure(2, 2), 10);
        x.tell(0, 2, 2, 6, 30);
        Due.due("a day later", x.measure(2, 2), 30);
        x.tell(0, 2, 3, 7, 40);
        x.tell(0, 3, 2, 8, 50);
        Due.due("days told of others do not count", x.measure(2, 2), 30);
        x.tell(1, 2, 2, 6, 31);
        x.tell(1, 2, 2, 5, 99);
        Due.due("both of the day, none else", x.measure(2, 2), 30);
    }

    private static void allTellingsOfTheDay() {
        Due.about("of all tellings the sum of (told less HABIT) by how many");
        TailorHouse x = new TailorHouse();
        x.habit(0, 0, 1);
        x.habit(1, 0, -2);
        x.habit(2, 0, 30);
        x.tell(0, 0, 0, 1, 101);
        x.tell(1, 0, 0, 1, 101);
        x.tell(1, 0, 0, 1, 100);
        x.tell(3, 0, 0, 1, 102);
        Due.due("100, 103, 102, 102: 407 by 4", x.measure(0, 0), 101);
    }

    private static void meanIsCutTowardZero() {
        Due.about("by how many, cut toward 0");
        int[][] dues = {{0, 0}, {1, 0}, {2, -1}, {3, -1}, {4, -2}, {5, -2}};
        for (int[] due : dues) {
            TailorHouse x = new TailorHouse();
            x.tell(0, 0, 0, 1, 0);
            x.tell(1, 0, 0, 1, 0);
            x.habit(0, 0, due[0]);
            Due.due("-" + due[0] + " by 2", x.measure(0, 0), due[1]);
            x.habit(0, 0, -due[0]);
            Due.due(due[0] + " by 2", x.measure(0, 0), -due[1]);
        }
        TailorHouse x = new TailorHouse();
        x.tell(0, 0, 0, 1, 2);
        x.tell(1, 0, 0, 1, 0);
        x.tell(1, 0, 0, 1, 0);
        Due.due("2 by 3", x.measure(0, 0), 0);
        x.habit(1, 0, 2);
        Due.due("-2 by 3", x.measure(0, 0), 0);
        x.habit(1, 0, 3);
        Due.due("-4 by 3", x.measure(0, 0), -1);
    }

    private static void measuresBeyondWhatIsTold() {
        Due.about("HABITS taken off, below 0 and above 3000 too");
        TailorHouse x = new TailorHouse();
        x.tell(0, 0, 0, 1, 0);
        x.tell(0, 1, 0, 1, 3000);
        // an answer of the calls that is no refusal, though it looks like one
        for (int v = 1; v <= 4; v++) {
            x.habit(0, 0, v);
            Due.due("0 less " + v, x.measure(0, 0), -v);
        }
        x.habit(0, 0, 50);
        Due.due("0 less 50", x.measure(0, 0), -50);
        x.habit(0, 0, -50);
        Due.due("3000 and 50", x.measure(1, 0), 3050);
    }

    private static void noTelling() {
        Due.about("(No telling: 0.)");
        TailorHouse x = new TailorHouse();
        for (int hand = 0; hand < 4; hand++) {
            x.habit(hand, 2, 50);
        }
        x.tell(0, 1, 1, 5, 300);
        x.tell(0, 2, 3, 5, 300);
        Due.due("habits, but no telling", x.measure(1, 2), 0);
        Due.due("another body was told of", x.measure(2, 1), 0);
        Due.due("another measure was told of", x.measure(2, 2), 0);
        x.tell(0, 1, 2, 5, 50);
        Due.due("told: 0 too", x.measure(1, 2), 0);
    }

    private static void grownOfNothing() {
        Due.about("GROWN (0, if there is none): no telling");
        TailorHouse x = new TailorHouse();
        x.habit(0, 0, 50);
        x.tell(0, 1, 0, 1, 10);
        x.tell(0, 1, 0, 2, 20);
        x.tell(0, 0, 1, 1, 10);
        x.tell(0, 0, 1, 2, 20);
        Due.due("others have grown", x.grown(0, 0), 0);
    }

    private static void grownOfOneDay() {
        Due.about("GROWN (0, if there is none): one DAY");
        for (int day : new int[] {0, 1, 9999, 10000}) {
            TailorHouse x = new TailorHouse();
            x.tell(0, 0, 0, day, 700);
            Due.due("one telling on day " + day, x.grown(0, 0), 0);
            x.tell(1, 0, 0, day, 800);
            Due.due("two tellings on day " + day, x.grown(0, 0), 0);
            x.habit(1, 0, 50);
            Due.due("with a habit", x.grown(0, 0), 0);
        }
    }

    private static void grownSinceTheDayAhead() {
        Due.about("that less the same of the DAY ahead of it, of which it was told");
        TailorHouse x = new TailorHouse();
        x.tell(0, 0, 0, 0, 100);
        x.tell(0, 0, 0, 10000, 500);
        Due.due("from the first day to the last", x.grown(0, 0), 400);
        x.tell(0, 0, 0, 5000, 450);
        Due.due("the day just ahead", x.grown(0, 0), 50);
        x.tell(0, 0, 1, 7000, 10);
        x.tell(0, 1, 0, 7000, 10);
        Due.due("of others it was told that day", x.grown(0, 0), 50);
        x.tell(1, 0, 0, 5000, 455);
        x.tell(1, 0, 0, 10000, 507);
        Due.due("503 less 452, each cut for itself", x.grown(0, 0), 51);
        x.habit(1, 0, 50);
        Due.due("habits off both: 478 less 427", x.grown(0, 0), 51);
        x.habit(0, 0, -3);
        x.tell(1, 0, 0, 10000, 500);
        Due.due("1410 by 3 less 429", x.grown(0, 0), 41);
    }

    private static void grownFarthest() {
        Due.about("GROWN, the greatest and the least");
        TailorHouse x = new TailorHouse();
        x.habit(0, 0, 50);
        x.habit(1, 0, -50);
        x.tell(0, 0, 0, 0, 0);
        x.tell(1, 0, 0, 1, 3000);
        Due.due("3050 less -50", x.grown(0, 0), 3100);
        x.tell(0, 0, 0, 2, 0);
        Due.due("-50 less 3050", x.grown(0, 0), -3100);
    }

    private static void foundWithoutPair() {
        Due.about("NONE - 1000: no pair");
        TailorHouse x = new TailorHouse();
        Due.due("nothing told", x.found(0, 0, 1), NO_PAIR);
        x.tell(0, 0, 0, 1, 100);
        Due.due("t told nothing", x.found(0, 0, 1), NO_PAIR);
        Due.due("s told nothing", x.found(0, 1, 0), NO_PAIR);
        x.tell(1, 0, 0, 2, 100);
        Due.due("on another day", x.found(0, 0, 1), NO_PAIR);
        x.tell(1, 1, 0, 1, 100);
        Due.due("of another body", x.found(0, 0, 1), NO_PAIR);
        x.tell(1, 0, 1, 1, 100);
        Due.due("of another measure", x.found(0, 0, 1), NO_PAIR);
        Due.due("of the other measure, too", x.found(1, 0, 1), NO_PAIR);
        x.tell(2, 0, 0, 1, 100);
        Due.due("by another hand", x.found(0, 0, 1), NO_PAIR);
        x.tell(1, 0, 0, 1, 100);
        Due.due("a pair that does not differ is a pair", x.found(0, 0, 1), 0);
    }

    private static void foundOfAllPairs() {
        Due.about("over all pairs of tellings of one BODY on one DAY");
        TailorHouse x = new TailorHouse();
        x.tell(0, 0, 0, 1, 10);
        x.tell(0, 0, 0, 1, 20);
        x.tell(1, 0, 0, 1, 4);
        x.tell(1, 0, 0, 1, 7);
        x.tell(1, 0, 0, 1, 7);
        Due.due("six pairs: 54 by 6", x.found(0, 0, 1), 9);
        x.tell(0, 0, 0, 2, 100);
        x.tell(1, 0, 0, 2, 30);
        Due.due("a day that is not the latest counts too: 124 by 7", x.found(0, 0, 1), 17);
        x.tell(1, 5, 0, 0, 1000);
        x.tell(0, 5, 0, 0, 0);
        Due.due("of every body: -876 by 8", x.found(0, 0, 1), -109);
        Due.due("the other way", x.found(0, 1, 0), 109);
        x.habit(0, 0, 50);
        x.habit(1, 0, -50);
        Due.due("what they told, no habit taken off", x.found(0, 0, 1), -109);
    }

    private static void foundIsCutTowardZero() {
        Due.about("HABITS FOUND: by how many, cut toward 0");
        TailorHouse x = new TailorHouse();
        x.tell(0, 0, 0, 1, 11);
        x.tell(1, 0, 0, 1, 11);
        x.tell(1, 0, 0, 1, 12);
        Due.due("-1 by 2", x.found(0, 0, 1), 0);
        Due.due("1 by 2", x.found(0, 1, 0), 0);
        x.tell(1, 0, 0, 1, 15);
        Due.due("-5 by 3", x.found(0, 0, 1), -1);
        Due.due("5 by 3", x.found(0, 1, 0), 1);
    }

    private static void foundFarthest() {
        Due.about("HABITS FOUND, the least; as great as those of no pair and of BAD");
        int[] told = {3000, 1001, 2000};
        for (int v : told) {
            TailorHouse x = new TailorHouse();
            x.tell(3, 5, 5, 10000, v);
            x.tell(2, 5, 5, 10000, 0);
            Due.due("more", x.found(5, 3, 2), v);
            Due.due("less", x.found(5, 2, 3), -v);
        }
    }

    private static void handWithItself() {
        Due.about("(Of a HAND with itself each telling is a pair with itself, too.)");
        TailorHouse x = new TailorHouse();
        Due.due("nothing told", x.found(0, 2, 2), NO_PAIR);
        x.tell(2, 0, 0, 1, 77);
        Due.due("one telling", x.found(0, 2, 2), 0);
        Due.due("of a measure not told", x.found(1, 2, 2), NO_PAIR);
        Due.due("of a hand that told nothing", x.found(0, 1, 1), NO_PAIR);
        x.tell(2, 0, 0, 1, 3000);
        Due.due("two of one day, each with each", x.found(0, 2, 2), 0);
        x.tell(2, 0, 0, 2, 5);
        x.tell(2, 1, 0, 1, 5);
        Due.due("many", x.found(0, 2, 2), 0);
    }
}
