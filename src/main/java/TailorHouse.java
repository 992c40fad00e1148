/**
 * A tailors' house: bodies measured by hands, drafts of points, pieces and seams,
 * cloth on which the pieces are laid, and coats that go through three hands.
 *
 * All rows are made in the constructors and used again, so that no call makes an object.
 */
public final class TailorHouse {
    public static final int NONE = -1, BAD = -2, NO = -3, FULL = -4;

    private static final int BAD_HABIT = -1000;
    private static final int BAD_GROWN = -10000;
    private static final int BAD_FOUND = -2000;
    private static final int BAD_AT = -2000000000;
    private static final int NO_PAIR = NONE - 1000;

    private static final int HANDS = 4;
    private static final int BODIES = 6;
    private static final int MEASURES = 6;
    private static final int MAX_TELLINGS = 40;
    private static final int MAX_DAY = 10000;
    private static final int MAX_TOLD = 3000;
    private static final int MAX_HABIT = 50;

    private static final int MAX_POINTS = 20;
    private static final int MAX_PLACE = 5000;
    private static final int MAX_PART = 20;
    private static final int MAX_PIECES = 7;
    private static final int MAX_CORNERS = 8;
    private static final int MAX_SEAMS = 10;
    private static final int MAX_GAP = 100;

    private static final int MAX_CLOTH_WIDTH = 5000;
    private static final int MAX_CHECK = 500;
    private static final int FIRST_CLOTH_WIDTH = 1500;
    private static final int FIRST_CHECK = 50;

    private static final int MAX_COATS = 6;
    private static final int MAX_HOURS = 50;
    private static final int MAX_PROMISED = 1000;

    /** Above every end and every lateness. */
    private static final int BEYOND = 2000000000;

    private static final int FIXED = 0;
    private static final int OFF = 1;
    private static final int BY_RIGHT = 2;
    private static final int BY_DOWN = 3;
    private static final int MIDDLE = 4;

    private final Tellings tellings;
    private final Draft draft;
    private final Pattern pattern;
    private final Table table;
    private final Workshop workshop;

    public TailorHouse() {
        tellings = new Tellings();
        draft = new Draft(tellings);
        pattern = new Pattern(draft);
        table = new Table();
        workshop = new Workshop();
    }

    // ---- bodies

    public int tell(int hand, int body, int measure, int day, int v) {
        if (!isHand(hand) || !isBody(body) || !isMeasure(measure)) {
            return BAD;
        }
        if (!within(day, 0, MAX_DAY) || !within(v, 0, MAX_TOLD)) {
            return BAD;
        }
        return tellings.keep(hand, body, measure, day, v);
    }

    public int habit(int hand, int measure, int v) {
        if (!isHand(hand) || !isMeasure(measure) || !within(v, -MAX_HABIT, MAX_HABIT)) {
            return BAD_HABIT;
        }
        return tellings.changeHabit(hand, measure, v);
    }

    public int measure(int body, int measure) {
        if (!isBody(body) || !isMeasure(measure)) {
            return BAD;
        }
        return tellings.latest(body, measure);
    }

    public int grown(int body, int measure) {
        if (!isBody(body) || !isMeasure(measure)) {
            return BAD_GROWN;
        }
        return tellings.growth(body, measure);
    }

    public int found(int measure, int s, int t) {
        if (!isMeasure(measure) || !isHand(s) || !isHand(t)) {
            return BAD_FOUND;
        }
        return tellings.meanDifference(measure, s, t);
    }

    // ---- drafts

    public int fixed(int a, int b) {
        if (!isPlace(a) || !isPlace(b)) {
            return BAD;
        }
        return draft.addPoint(FIXED, 0, 0, a, b);
    }

    public int off(int p, int dx, int dy) {
        if (!draft.has(p) || !isPlace(dx) || !isPlace(dy)) {
            return BAD;
        }
        return draft.addPoint(OFF, p, 0, dx, dy);
    }

    public int by(int p, int measure, int a, int b, int way) {
        if (!draft.has(p) || !isMeasure(measure)) {
            return BAD;
        }
        if (!within(a, -MAX_PART, MAX_PART) || !within(b, 1, MAX_PART) || !within(way, 0, 1)) {
            return BAD;
        }
        return draft.addPoint(way == 0 ? BY_RIGHT : BY_DOWN, p, measure, a, b);
    }

    public int middle(int p, int q) {
        if (!draft.has(p) || !draft.has(q)) {
            return BAD;
        }
        return draft.addPoint(MIDDLE, p, q, 0, 0);
    }

    public int at(int body, int p, int what) {
        if (!isBody(body) || !draft.has(p) || !within(what, 0, 1)) {
            return BAD_AT;
        }
        draft.workOut(body);
        return what == 0 ? draft.x[p] : draft.y[p];
    }

    public int piece(int a, int b, int c, int d) {
        if (!draft.has(a) || !draft.has(b) || !draft.has(c)) {
            return BAD;
        }
        if (d != NONE && !draft.has(d)) {
            return BAD;
        }
        return pattern.addPiece(a, b, c, d);
    }

    public int more(int piece, int p) {
        if (!pattern.has(piece) || !draft.has(p)) {
            return BAD;
        }
        return pattern.addCorner(piece, p);
    }

    public int length(int body, int piece, int i) {
        if (!isBody(body) || !pattern.hasSide(piece, i)) {
            return BAD;
        }
        draft.workOut(body);
        return pattern.sideLength(piece, i);
    }

    public long area(int body, int piece) {
        if (!isBody(body) || !pattern.has(piece)) {
            return BAD;
        }
        draft.workOut(body);
        return pattern.doubleArea(piece);
    }

    public int seam(int piece, int i, int other, int j) {
        if (!pattern.hasSide(piece, i) || !pattern.hasSide(other, j)) {
            return BAD;
        }
        return pattern.addSeam(piece, i, other, j);
    }

    public int gaps(int body, int t) {
        if (!isBody(body) || !within(t, 0, MAX_GAP)) {
            return BAD;
        }
        draft.workOut(body);
        return pattern.firstGap(t);
    }

    public int hangs(int measure, int what) {
        if (!isMeasure(measure) || !within(what, 0, 1)) {
            return BAD;
        }
        int points = draft.pointsOn(measure);
        return what == 0 ? points : pattern.piecesWith(points);
    }

    // ---- cloth, coats

    public int cloth(int w, int p) {
        if (!within(w, 1, MAX_CLOTH_WIDTH) || !within(p, 1, MAX_CHECK)) {
            return BAD;
        }
        table.spread(w, p);
        return 1;
    }

    public int laid(int body) {
        return layAll(body);
    }

    public int laidAt(int body, int i) {
        int end = layAll(body);
        if (end < 0) {
            return end;
        }
        return within(i, 0, pattern.pieces - 1) ? table.bestOrder[i] : NONE;
    }

    public int coat(int cutter, int sewer, int finisher, int promised) {
        if (!isHours(cutter) || !isHours(sewer) || !isHours(finisher)) {
            return BAD;
        }
        if (!within(promised, 0, MAX_PROMISED)) {
            return BAD;
        }
        return workshop.addCoat(cutter, sewer, finisher, promised);
    }

    public int clear() {
        int gone = workshop.coats;
        workshop.coats = 0;
        return gone;
    }

    public int best(int what) {
        if (!within(what, 0, 1)) {
            return BAD;
        }
        workshop.findOrder();
        return what == 0 ? workshop.leastLate : workshop.leastEnd;
    }

    public int coatAt(int i) {
        if (!within(i, 0, workshop.coats - 1)) {
            return NONE;
        }
        workshop.findOrder();
        return workshop.bestOrder[i];
    }

    public int count(int what) {
        switch (what) {
            case 0:
                return tellings.told;
            case 1:
                return draft.points;
            case 2:
                return pattern.pieces;
            case 3:
                return pattern.seams;
            case 4:
                return workshop.coats;
            default:
                return BAD;
        }
    }

    public long digest() {
        long h = 233;
        for (int what = 0; what <= 4; what++) {
            h = mix(h, count(what));
        }
        draft.workOut(0);
        h = tellings.mixMeasures(h);
        h = draft.mixPoints(h);
        h = pattern.mixPieces(h);
        h = pattern.mixSeams(h);
        return workshop.mixCoats(h);
    }

    /** The end by the best order, or BAD, NO or NONE; an end is never below 1. */
    private int layAll(int body) {
        if (!isBody(body)) {
            return BAD;
        }
        if (pattern.pieces == 0) {
            return NO;
        }
        draft.workOut(body);
        return table.layLeast(pattern);
    }

    private static boolean within(int v, int least, int most) {
        return v >= least && v <= most;
    }

    private static boolean isHand(int hand) {
        return within(hand, 0, HANDS - 1);
    }

    private static boolean isBody(int body) {
        return within(body, 0, BODIES - 1);
    }

    private static boolean isMeasure(int measure) {
        return within(measure, 0, MEASURES - 1);
    }

    private static boolean isPlace(int v) {
        return within(v, -MAX_PLACE, MAX_PLACE);
    }

    private static boolean isHours(int hours) {
        return within(hours, 1, MAX_HOURS);
    }

    /** Every division goes through here, so that no divisor is 0. */
    private static int divide(int sum, int divisor) {
        return divisor == 0 ? 0 : sum / divisor;
    }

    /** The greatest whole number below 2^31 whose square is no more than the given one. */
    private static int root(long square) {
        long root = 0;
        for (int bit = 30; bit >= 0; bit--) {
            long tried = root + (1L << bit);
            if (tried * tried <= square) {
                root = tried;
            }
        }
        return (int) root;
    }

    private static long mix(long h, long v) {
        return 31 * h + v;
    }

    /** What the hands told of the bodies, and the hands' habits. */
    private static final class Tellings {
        private final int[] hands = new int[MAX_TELLINGS];
        private final int[] bodies = new int[MAX_TELLINGS];
        private final int[] measures = new int[MAX_TELLINGS];
        private final int[] days = new int[MAX_TELLINGS];
        private final int[] values = new int[MAX_TELLINGS];
        private final int[] habits = new int[HANDS * MEASURES];
        private int told = 0;

        int keep(int hand, int body, int measure, int day, int v) {
            if (told >= MAX_TELLINGS) {
                return FULL;
            }
            hands[told] = hand;
            bodies[told] = body;
            measures[told] = measure;
            days[told] = day;
            values[told] = v;
            told++;
            return told;
        }

        int changeHabit(int hand, int measure, int v) {
            int place = hand * MEASURES + measure;
            int old = habits[place];
            habits[place] = v;
            return old;
        }

        int latest(int body, int measure) {
            return meanOn(body, measure, lastDayBefore(body, measure, MAX_DAY + 1));
        }

        int growth(int body, int measure) {
            int last = lastDayBefore(body, measure, MAX_DAY + 1);
            int ahead = lastDayBefore(body, measure, last);
            if (ahead == NONE) {
                return 0;
            }
            return meanOn(body, measure, last) - meanOn(body, measure, ahead);
        }

        /** Habits are found from what was told, so none is taken off here. */
        int meanDifference(int measure, int s, int t) {
            int sum = 0;
            int pairs = 0;
            for (int i = 0; i < told; i++) {
                if (hands[i] != s || measures[i] != measure) {
                    continue;
                }
                for (int j = 0; j < told; j++) {
                    if (hands[j] == t && isLikeTelling(i, j)) {
                        sum += values[i] - values[j];
                        pairs++;
                    }
                }
            }
            return pairs == 0 ? NO_PAIR : divide(sum, pairs);
        }

        long mixMeasures(long start) {
            long h = start;
            for (int body = 0; body < BODIES; body++) {
                for (int measure = 0; measure < MEASURES; measure++) {
                    h = mix(h, latest(body, measure));
                }
            }
            return h;
        }

        private boolean isLikeTelling(int i, int j) {
            return measures[i] == measures[j] && bodies[i] == bodies[j] && days[i] == days[j];
        }

        private boolean isOf(int i, int body, int measure) {
            return bodies[i] == body && measures[i] == measure;
        }

        private int lastDayBefore(int body, int measure, int limit) {
            int last = NONE;
            for (int i = 0; i < told; i++) {
                if (isOf(i, body, measure) && days[i] < limit && days[i] > last) {
                    last = days[i];
                }
            }
            return last;
        }

        private int meanOn(int body, int measure, int day) {
            int sum = 0;
            int many = 0;
            for (int i = 0; i < told; i++) {
                if (isOf(i, body, measure) && days[i] == day) {
                    sum += values[i] - habits[hands[i] * MEASURES + measure];
                    many++;
                }
            }
            return divide(sum, many);
        }
    }

    /** Points, each made of points ahead of it; x and y hold for the body last worked out. */
    private static final class Draft {
        private final Tellings tellings;
        private final int[] kinds = new int[MAX_POINTS];
        private final int[] bases = new int[MAX_POINTS];
        /** The second point of a middle, the measure of a point by one. */
        private final int[] others = new int[MAX_POINTS];
        private final int[] as = new int[MAX_POINTS];
        private final int[] bs = new int[MAX_POINTS];
        private final int[] bodyMeasures = new int[MEASURES];
        private final int[] x = new int[MAX_POINTS];
        private final int[] y = new int[MAX_POINTS];
        private int points = 0;

        Draft(Tellings tellings) {
            this.tellings = tellings;
        }

        boolean has(int p) {
            return within(p, 0, points - 1);
        }

        int addPoint(int kind, int base, int other, int a, int b) {
            if (points >= MAX_POINTS) {
                return FULL;
            }
            kinds[points] = kind;
            bases[points] = base;
            others[points] = other;
            as[points] = a;
            bs[points] = b;
            points++;
            return points - 1;
        }

        void workOut(int body) {
            for (int measure = 0; measure < MEASURES; measure++) {
                bodyMeasures[measure] = tellings.latest(body, measure);
            }
            for (int p = 0; p < points; p++) {
                place(p);
            }
        }

        /** The points that hang on a measure, as bits. */
        int pointsOn(int measure) {
            int bits = 0;
            for (int p = 0; p < points; p++) {
                if (isOn(p, measure, bits)) {
                    bits |= 1 << p;
                }
            }
            return bits;
        }

        long mixPoints(long start) {
            long h = start;
            for (int p = 0; p < points; p++) {
                h = mix(mix(h, x[p]), y[p]);
            }
            return h;
        }

        private void place(int p) {
            int base = bases[p];
            int other = others[p];
            switch (kinds[p]) {
                case FIXED:
                    put(p, as[p], bs[p]);
                    break;
                case OFF:
                    put(p, x[base] + as[p], y[base] + bs[p]);
                    break;
                case BY_RIGHT:
                    put(p, x[base] + part(p), y[base]);
                    break;
                case BY_DOWN:
                    put(p, x[base], y[base] + part(p));
                    break;
                default:
                    put(p, divide(x[base] + x[other], 2), divide(y[base] + y[other], 2));
                    break;
            }
        }

        private void put(int p, int newX, int newY) {
            x[p] = newX;
            y[p] = newY;
        }

        private int part(int p) {
            return divide(bodyMeasures[others[p]] * as[p], bs[p]);
        }

        /** Needs the bits of all points ahead of p. */
        private boolean isOn(int p, int measure, int bits) {
            boolean baseIsOn = (bits >> bases[p] & 1) == 1;
            switch (kinds[p]) {
                case FIXED:
                    return false;
                case OFF:
                    return baseIsOn;
                case MIDDLE:
                    return baseIsOn || (bits >> others[p] & 1) == 1;
                default:
                    return baseIsOn || others[p] == measure;
            }
        }
    }

    /** Pieces and seams; lengths, areas and rooms are those of the body last worked out in the draft. */
    private static final class Pattern {
        private final Draft draft;
        private final int[] sizes = new int[MAX_PIECES];
        private final int[] corners = new int[MAX_PIECES * MAX_CORNERS];
        /** Piece, side, piece, side of each seam. */
        private final int[] joins = new int[MAX_SEAMS * 4];
        private int pieces = 0;
        private int seams = 0;

        Pattern(Draft draft) {
            this.draft = draft;
        }

        boolean has(int piece) {
            return within(piece, 0, pieces - 1);
        }

        boolean hasSide(int piece, int side) {
            return has(piece) && within(side, 0, sizes[piece] - 1);
        }

        int addPiece(int a, int b, int c, int d) {
            if (pieces >= MAX_PIECES) {
                return FULL;
            }
            int first = pieces * MAX_CORNERS;
            corners[first] = a;
            corners[first + 1] = b;
            corners[first + 2] = c;
            corners[first + 3] = d;
            sizes[pieces] = d == NONE ? 3 : 4;
            pieces++;
            return pieces - 1;
        }

        int addCorner(int piece, int p) {
            if (sizes[piece] >= MAX_CORNERS) {
                return FULL;
            }
            corners[piece * MAX_CORNERS + sizes[piece]] = p;
            sizes[piece]++;
            return sizes[piece];
        }

        int addSeam(int piece, int side, int other, int otherSide) {
            if (seams >= MAX_SEAMS) {
                return FULL;
            }
            joins[seams * 4] = piece;
            joins[seams * 4 + 1] = side;
            joins[seams * 4 + 2] = other;
            joins[seams * 4 + 3] = otherSide;
            seams++;
            return seams - 1;
        }

        int sideLength(int piece, int side) {
            int from = corner(piece, side);
            int to = cornerAfter(piece, side);
            long dx = draft.x[to] - draft.x[from];
            long dy = draft.y[to] - draft.y[from];
            return root(100 * (dx * dx + dy * dy));
        }

        long doubleArea(int piece) {
            long sum = 0;
            for (int i = 0; i < sizes[piece]; i++) {
                int from = corner(piece, i);
                int to = cornerAfter(piece, i);
                sum += (long) draft.x[from] * draft.y[to] - (long) draft.x[to] * draft.y[from];
            }
            return Math.abs(sum);
        }

        int firstGap(int allowed) {
            for (int s = 0; s < seams; s++) {
                int one = sideLength(joins[s * 4], joins[s * 4 + 1]);
                int other = sideLength(joins[s * 4 + 2], joins[s * 4 + 3]);
                if (Math.abs(one - other) > allowed) {
                    return s;
                }
            }
            return NONE;
        }

        /** The pieces, as bits, that have one of the points, given as bits. */
        int piecesWith(int points) {
            int bits = 0;
            for (int piece = 0; piece < pieces; piece++) {
                for (int i = 0; i < sizes[piece]; i++) {
                    if ((points >> corner(piece, i) & 1) == 1) {
                        bits |= 1 << piece;
                    }
                }
            }
            return bits;
        }

        int roomRight(int piece) {
            return room(piece, draft.x);
        }

        int roomDown(int piece) {
            return room(piece, draft.y);
        }

        long mixPieces(long start) {
            long h = start;
            for (int piece = 0; piece < pieces; piece++) {
                h = mix(h, sizes[piece]);
                for (int i = 0; i < sizes[piece]; i++) {
                    h = mix(h, corner(piece, i));
                }
            }
            return h;
        }

        long mixSeams(long start) {
            long h = start;
            for (int i = 0; i < seams * 4; i++) {
                h = mix(h, joins[i]);
            }
            return h;
        }

        private int corner(int piece, int i) {
            return corners[piece * MAX_CORNERS + i];
        }

        private int cornerAfter(int piece, int i) {
            return corner(piece, i + 1 < sizes[piece] ? i + 1 : 0);
        }

        private int room(int piece, int[] places) {
            int least = places[corner(piece, 0)];
            int greatest = least;
            for (int i = 1; i < sizes[piece]; i++) {
                least = Math.min(least, places[corner(piece, i)]);
                greatest = Math.max(greatest, places[corner(piece, i)]);
            }
            return Math.max(greatest - least, 1);
        }
    }

    /** The cloth, and the search for the order of pieces that takes the least of it. */
    private static final class Table {
        private final int[] widths = new int[MAX_PIECES];
        private final int[] heights = new int[MAX_PIECES];
        private final boolean[] isLaid = new boolean[MAX_PIECES];
        private final int[] order = new int[MAX_PIECES];
        private final int[] bestOrder = new int[MAX_PIECES];
        private int pieces = 0;
        private int leastEnd = 0;
        private int width = FIRST_CLOTH_WIDTH;
        private int check = FIRST_CHECK;

        void spread(int newWidth, int newCheck) {
            width = newWidth;
            check = newCheck;
        }

        /** The least end, or NONE if a piece is wider than the cloth. */
        int layLeast(Pattern pattern) {
            pieces = pattern.pieces;
            for (int piece = 0; piece < pieces; piece++) {
                widths[piece] = pattern.roomRight(piece);
                heights[piece] = pattern.roomDown(piece);
                isLaid[piece] = false;
                if (widths[piece] > width) {
                    return NONE;
                }
            }
            leastEnd = BEYOND;
            layNext(0, 0, 0, 0);
            return leastEnd;
        }

        /**
         * Orders are tried first by numbers, so that of like ends the first one stays. A piece
         * more never brings the end up again: what has reached the least end is given up.
         */
        private void layNext(int depth, int top, int right, int tallest) {
            if (top + tallest >= leastEnd) {
                return;
            }
            if (depth >= pieces) {
                leastEnd = top + tallest;
                System.arraycopy(order, 0, bestOrder, 0, pieces);
                return;
            }
            for (int piece = 0; piece < pieces; piece++) {
                if (isLaid[piece]) {
                    continue;
                }
                isLaid[piece] = true;
                order[depth] = piece;
                if (right + widths[piece] <= width) {
                    layNext(depth + 1, top, right + widths[piece], Math.max(tallest, heights[piece]));
                } else {
                    layNext(depth + 1, nextCheck(top + tallest), widths[piece], heights[piece]);
                }
                isLaid[piece] = false;
            }
        }

        private int nextCheck(int end) {
            return divide(end + check - 1, check) * check;
        }
    }

    /** The coats, and the search for the order in which they are least late. */
    private static final class Workshop {
        private final int[] cutting = new int[MAX_COATS];
        private final int[] sewing = new int[MAX_COATS];
        private final int[] finishing = new int[MAX_COATS];
        private final int[] promises = new int[MAX_COATS];
        private final boolean[] isDone = new boolean[MAX_COATS];
        private final int[] order = new int[MAX_COATS];
        private final int[] bestOrder = new int[MAX_COATS];
        private int coats = 0;
        private int leastLate = 0;
        private int leastEnd = 0;

        int addCoat(int cutter, int sewer, int finisher, int promised) {
            if (coats >= MAX_COATS) {
                return FULL;
            }
            cutting[coats] = cutter;
            sewing[coats] = sewer;
            finishing[coats] = finisher;
            promises[coats] = promised;
            coats++;
            return coats - 1;
        }

        void findOrder() {
            for (int i = 0; i < coats; i++) {
                isDone[i] = false;
            }
            leastLate = BEYOND;
            leastEnd = BEYOND;
            makeNext(0, 0, 0, 0, 0);
        }

        long mixCoats(long start) {
            long h = start;
            for (int i = 0; i < coats; i++) {
                h = mix(mix(h, cutting[i]), sewing[i]);
                h = mix(mix(h, finishing[i]), promises[i]);
            }
            return h;
        }

        /**
         * Orders are tried first by numbers, so that of like ones the first one stays. A coat more
         * brings neither lateness nor end down: what is no better by now is given up.
         */
        private void makeNext(int depth, int cut, int sewn, int finished, int late) {
            if (late > leastLate || late == leastLate && finished >= leastEnd) {
                return;
            }
            if (depth >= coats) {
                leastLate = late;
                leastEnd = finished;
                System.arraycopy(order, 0, bestOrder, 0, coats);
                return;
            }
            for (int i = 0; i < coats; i++) {
                if (isDone[i]) {
                    continue;
                }
                isDone[i] = true;
                order[depth] = i;
                int cutBy = cut + cutting[i];
                int sewnBy = Math.max(cutBy, sewn) + sewing[i];
                int finishedBy = Math.max(sewnBy, finished) + finishing[i];
                int behind = Math.max(finishedBy - promises[i], 0);
                makeNext(depth + 1, cutBy, sewnBy, finishedBy, late + behind);
                isDone[i] = false;
            }
        }
    }
}
