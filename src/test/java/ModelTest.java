import java.util.ArrayList;
import java.util.List;
import java.util.Random;

/** All promises: random runs of calls, each answer against that of the plain model. */
public final class ModelTest {
    private static final int RUNS = 400;
    /** What a house is used for; each answer that is compared is one call of it. */
    private static final int CALLS = 512;
    /** The most calls that one step of a run makes. */
    private static final int STEP = 10;
    private static final int[] WILD = {
        -1, -2, 6, 7, 8, 20, 21, 40, 50, 51, 100, 101, 500, 501, 3001, 5001, 10001,
        Integer.MAX_VALUE, Integer.MIN_VALUE, Integer.MIN_VALUE + 1};

    private final Random random;
    private final TailorHouse house = new TailorHouse();
    private final PlainHouse plain = new PlainHouse();
    private final int scale;

    private ModelTest(long seed) {
        random = new Random(seed);
        int[] scales = {3, 12, 60, 400, 5000};
        scale = scales[(int) (seed % scales.length)];
    }

    public static void main(String[] args) {
        for (int run = 0; run < RUNS && !Due.isWrong(); run++) {
            new ModelTest(run).play(run);
        }
        Due.end();
    }

    private void play(int run) {
        int begun = Due.asked();
        for (int call = 0; call < CALLS && Due.asked() - begun + STEP <= CALLS && !Due.isWrong(); call++) {
            int kind = random.nextInt(26);
            // a wide search is dear in the model, so that it is asked less often
            if ((kind == 18 || kind == 19) && random.nextInt(8) != 0) {
                kind = random.nextInt(6);
            }
            play(kind, "run " + run + " call " + call + ": ");
        }
    }

    /** A number of 0 .. n - 1 mostly; seldom one that is wild. */
    private int pick(int n) {
        return between(0, n - 1);
    }

    private int between(int least, int most) {
        if (most < least || random.nextInt(40) == 0) {
            return WILD[random.nextInt(WILD.length)];
        }
        int edge = random.nextInt(20);
        return edge == 0 ? least : edge == 1 ? most : least + random.nextInt(most - least + 1);
    }

    private int place() {
        return between(-scale, scale);
    }

    private static boolean in(int v, int least, int most) {
        return v >= least && v <= most;
    }

    private boolean isPoint(int p) {
        return in(p, 0, plain.points.size() - 1);
    }

    private boolean isPiece(int piece) {
        return in(piece, 0, plain.pieces.size() - 1);
    }

    private boolean isSide(int piece, int i) {
        return isPiece(piece) && in(i, 0, plain.pieces.get(piece).size() - 1);
    }

    private static boolean isNumber(int v, int n) {
        return in(v, 0, n - 1);
    }

    private void play(int kind, String at) {
        if (kind <= 4) {
            playBodies(kind, at);
        } else if (kind <= 9) {
            playPoints(kind, at);
        } else if (kind <= 16) {
            playPieces(kind, at);
        } else {
            playClothAndCoats(kind, at);
        }
    }

    private void playBodies(int kind, String at) {
        int hand = pick(4);
        int other = pick(4);
        int body = pick(6);
        int measure = random.nextBoolean() ? pick(2) : pick(6);
        boolean isOf = isNumber(body, 6) && isNumber(measure, 6);
        switch (kind) {
            case 0 -> {
                int day = random.nextBoolean() ? pick(4) : between(0, 10000);
                int v = between(0, Math.min(3000, scale));
                boolean good = isNumber(hand, 4) && isOf && in(day, 0, 10000) && in(v, 0, 3000);
                boolean full = plain.tellings.size() == 40;
                if (good && !full) {
                    plain.tellings.add(new PlainHouse.Telling(hand, body, measure, day, v));
                }
                Due.due(at + "tell", house.tell(hand, body, measure, day, v),
                    !good ? -2 : full ? -4 : plain.tellings.size());
            }
            case 1 -> {
                int v = between(-50, 50);
                boolean good = isNumber(hand, 4) && isNumber(measure, 6) && in(v, -50, 50);
                int was = good ? plain.habits[hand][measure] : -1000;
                if (good) {
                    plain.habits[hand][measure] = v;
                }
                Due.due(at + "habit", house.habit(hand, measure, v), was);
            }
            case 2 -> Due.due(at + "measure", house.measure(body, measure),
                isOf ? plain.measureOf(body, measure) : -2);
            case 3 -> Due.due(at + "grown", house.grown(body, measure),
                isOf ? plain.grownOf(body, measure) : -10000);
            default -> {
                boolean good = isNumber(measure, 6) && isNumber(hand, 4) && isNumber(other, 4);
                Due.due(at + "found", house.found(measure, hand, other),
                    good ? plain.foundOf(measure, hand, other) : -2000);
            }
        }
    }

    private int addPlain(boolean good, char kind, int p, int q, int a, int b, int way) {
        if (!good) {
            return -2;
        }
        if (plain.points.size() == 20) {
            return -4;
        }
        plain.points.add(new PlainHouse.Point(kind, p, q, a, b, way));
        return plain.points.size() - 1;
    }

    private void playPoints(int kind, String at) {
        int p = pick(plain.points.size());
        int q = pick(plain.points.size());
        int a = place();
        int b = place();
        boolean arePlaces = in(a, -5000, 5000) && in(b, -5000, 5000);
        switch (kind) {
            case 5 -> Due.due(at + "fixed", house.fixed(a, b), addPlain(arePlaces, 'f', 0, 0, a, b, 0));
            case 6 -> Due.due(at + "off", house.off(p, a, b),
                addPlain(isPoint(p) && arePlaces, 'o', p, 0, a, b, 0));
            case 7 -> {
                int measure = pick(6);
                int part = between(-20, 20);
                int by = between(1, 20);
                int way = pick(2);
                boolean good = isPoint(p) && isNumber(measure, 6) && in(part, -20, 20)
                    && in(by, 1, 20) && isNumber(way, 2);
                Due.due(at + "by", house.by(p, measure, part, by, way),
                    addPlain(good, 'b', p, measure, part, by, way));
            }
            case 8 -> Due.due(at + "middle", house.middle(p, q),
                addPlain(isPoint(p) && isPoint(q), 'm', p, q, 0, 0, 0));
            default -> {
                int body = pick(6);
                int what = pick(2);
                boolean good = isNumber(body, 6) && isPoint(p) && isNumber(what, 2);
                Due.due(at + "at", house.at(body, p, what), good ? plain.place(body, p, what) : -2000000000);
            }
        }
    }

    private void playPieces(int kind, String at) {
        int body = pick(6);
        int piece = pick(plain.pieces.size());
        int other = pick(plain.pieces.size());
        int i = isPiece(piece) ? pick(plain.pieces.get(piece).size()) : pick(8);
        int j = isPiece(other) ? pick(plain.pieces.get(other).size()) : pick(8);
        switch (kind) {
            case 10 -> playPiece(at);
            case 11 -> playMore(at, piece, pick(plain.points.size()));
            case 12 -> Due.due(at + "length", house.length(body, piece, i),
                isNumber(body, 6) && isSide(piece, i) ? plain.lengthOf(body, piece, i) : -2);
            case 13 -> Due.due(at + "area", house.area(body, piece),
                isNumber(body, 6) && isPiece(piece) ? plain.areaOf(body, piece) : -2);
            case 14 -> {
                boolean good = isSide(piece, i) && isSide(other, j);
                boolean full = plain.seams.size() == 10;
                if (good && !full) {
                    plain.seams.add(new int[] {piece, i, other, j});
                }
                Due.due(at + "seam", house.seam(piece, i, other, j),
                    !good ? -2 : full ? -4 : plain.seams.size() - 1);
            }
            case 15 -> {
                int t = between(0, 100);
                boolean good = isNumber(body, 6) && in(t, 0, 100);
                Due.due(at + "gaps", house.gaps(body, t), good ? plain.gapsOf(body, t) : -2);
            }
            default -> {
                int measure = pick(6);
                int what = pick(2);
                boolean good = isNumber(measure, 6) && isNumber(what, 2);
                Due.due(at + "hangs", house.hangs(measure, what), good ? plain.hangsOf(measure, what) : -2);
            }
        }
    }

    private void playPiece(String at) {
        int n = plain.points.size();
        int a = pick(n);
        int b = pick(n);
        int c = pick(n);
        int d = random.nextInt(3) == 0 ? -1 : pick(n);
        boolean good = isPoint(a) && isPoint(b) && isPoint(c) && (d == -1 || isPoint(d));
        boolean full = plain.pieces.size() == 7;
        if (good && !full) {
            plain.pieces.add(new ArrayList<>(d == -1 ? List.of(a, b, c) : List.of(a, b, c, d)));
        }
        Due.due(at + "piece", house.piece(a, b, c, d), !good ? -2 : full ? -4 : plain.pieces.size() - 1);
    }

    private void playMore(String at, int piece, int p) {
        int due = -2;
        if (isPiece(piece) && isPoint(p)) {
            List<Integer> corners = plain.pieces.get(piece);
            boolean full = corners.size() == 8;
            if (!full) {
                corners.add(p);
            }
            due = full ? -4 : corners.size();
        }
        Due.due(at + "more", house.more(piece, p), due);
    }

    private void playClothAndCoats(int kind, String at) {
        switch (kind) {
            case 17 -> {
                int w = between(1, Math.min(5000, 4 * scale));
                int p = random.nextBoolean() ? between(1, 9) : between(1, 500);
                boolean good = in(w, 1, 5000) && in(p, 1, 500);
                if (good) {
                    plain.width = w;
                    plain.check = p;
                }
                Due.due(at + "cloth", house.cloth(w, p), good ? 1 : -2);
            }
            case 18, 19 -> playLaid(at, pick(6));
            case 20, 21 -> playCoat(at);
            case 22 -> {
                if (random.nextInt(4) == 0) {
                    int gone = plain.coats.size();
                    plain.coats.clear();
                    Due.due(at + "clear", house.clear(), gone);
                }
            }
            case 23 -> playBest(at);
            case 24 -> {
                int what = pick(5);
                int[] counts = {plain.tellings.size(), plain.points.size(), plain.pieces.size(),
                    plain.seams.size(), plain.coats.size()};
                Due.due(at + "count", house.count(what), isNumber(what, 5) ? counts[what] : -2);
            }
            default -> Due.due(at + "digest", house.digest(), plain.digestOf());
        }
    }

    private void playLaid(String at, int body) {
        boolean good = isNumber(body, 6);
        int[] due = good ? plain.laidFor(body) : new int[] {-2};
        Due.due(at + "laid", house.laid(body), due[0]);
        for (int i = -1; i < 8; i++) {
            int piece = due[0] < 0 ? due[0] : in(i, 0, due.length - 2) ? due[i + 1] : -1;
            Due.due(at + "laidAt " + i, house.laidAt(body, i), piece);
        }
    }

    private void playCoat(String at) {
        int most = random.nextBoolean() ? 4 : 50;
        int[] coat = {between(1, most), between(1, most), between(1, most),
            random.nextInt(9) == 0 ? between(0, 1000) : between(0, 5 * most)};
        boolean good = in(coat[0], 1, 50) && in(coat[1], 1, 50) && in(coat[2], 1, 50) && in(coat[3], 0, 1000);
        boolean full = plain.coats.size() == 6;
        if (good && !full) {
            plain.coats.add(coat);
        }
        Due.due(at + "coat", house.coat(coat[0], coat[1], coat[2], coat[3]),
            !good ? -2 : full ? -4 : plain.coats.size() - 1);
    }

    private void playBest(String at) {
        int[] due = plain.bestOfAll();
        int what = pick(2);
        Due.due(at + "best " + what, house.best(what), isNumber(what, 2) ? due[what] : -2);
        for (int i = -1; i < 7; i++) {
            Due.due(at + "coatAt " + i, house.coatAt(i), in(i, 0, due.length - 3) ? due[i + 2] : -1);
        }
    }
}
