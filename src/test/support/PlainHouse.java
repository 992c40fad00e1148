import java.math.BigInteger;
import java.util.ArrayList;
import java.util.List;

/**
 * The document once more, as plainly as it can be said: no rows used again, no search cut short.
 * It is asked with good numbers alone; PlainHouse says nothing of refusals but for NO and NONE.
 */
final class PlainHouse {
    record Telling(int hand, int body, int measure, int day, int v) { }

    record Point(char kind, int p, int q, int a, int b, int way) { }

    final List<Telling> tellings = new ArrayList<>();
    final int[][] habits = new int[4][6];
    final List<Point> points = new ArrayList<>();
    final List<List<Integer>> pieces = new ArrayList<>();
    final List<int[]> seams = new ArrayList<>();
    final List<int[]> coats = new ArrayList<>();
    int width = 1500;
    int check = 50;

    private List<Integer> daysOf(int body, int measure) {
        return tellings.stream().filter(t -> t.body == body && t.measure == measure)
            .map(Telling::day).distinct().sorted().toList();
    }

    private int mean(int body, int measure, int day) {
        List<Integer> bare = tellings.stream()
            .filter(t -> t.body == body && t.measure == measure && t.day == day)
            .map(t -> t.v - habits[t.hand][measure]).toList();
        return bare.stream().mapToInt(v -> v).sum() / bare.size();
    }

    int measureOf(int body, int measure) {
        List<Integer> days = daysOf(body, measure);
        return days.isEmpty() ? 0 : mean(body, measure, days.get(days.size() - 1));
    }

    int grownOf(int body, int measure) {
        List<Integer> days = daysOf(body, measure);
        int n = days.size();
        return n < 2 ? 0 : mean(body, measure, days.get(n - 1)) - mean(body, measure, days.get(n - 2));
    }

    int foundOf(int measure, int s, int t) {
        int sum = 0;
        int pairs = 0;
        for (Telling one : tellings) {
            for (Telling two : tellings) {
                boolean isPair = one.hand == s && two.hand == t && one.measure == measure
                    && two.measure == measure && one.body == two.body && one.day == two.day;
                if (isPair) {
                    sum += one.v - two.v;
                    pairs++;
                }
            }
        }
        return pairs == 0 ? -1001 : sum / pairs;
    }

    int place(int body, int number, int what) {
        Point p = points.get(number);
        switch (p.kind) {
            case 'f':
                return what == 0 ? p.a : p.b;
            case 'o':
                return place(body, p.p, what) + (what == 0 ? p.a : p.b);
            case 'b':
                int step = p.way == what ? measureOf(body, p.q) * p.a / p.b : 0;
                return place(body, p.p, what) + step;
            default:
                return (place(body, p.p, what) + place(body, p.q, what)) / 2;
        }
    }

    private int cornerOf(int body, int piece, int i, int what) {
        List<Integer> corners = pieces.get(piece);
        return place(body, corners.get(i % corners.size()), what);
    }

    int lengthOf(int body, int piece, int i) {
        long dx = cornerOf(body, piece, i, 0) - cornerOf(body, piece, i + 1, 0);
        long dy = cornerOf(body, piece, i, 1) - cornerOf(body, piece, i + 1, 1);
        return BigInteger.valueOf(100 * (dx * dx + dy * dy)).sqrt().intValueExact();
    }

    /** By triangles from the first corner, which is not the way of the class. */
    long areaOf(int body, int piece) {
        long sum = 0;
        long x0 = cornerOf(body, piece, 0, 0);
        long y0 = cornerOf(body, piece, 0, 1);
        for (int i = 1; i + 1 < pieces.get(piece).size(); i++) {
            long ux = cornerOf(body, piece, i, 0) - x0;
            long uy = cornerOf(body, piece, i, 1) - y0;
            long vx = cornerOf(body, piece, i + 1, 0) - x0;
            long vy = cornerOf(body, piece, i + 1, 1) - y0;
            sum += ux * vy - uy * vx;
        }
        return sum < 0 ? -sum : sum;
    }

    int gapsOf(int body, int t) {
        for (int s = 0; s < seams.size(); s++) {
            int[] seam = seams.get(s);
            if (Math.abs(lengthOf(body, seam[0], seam[1]) - lengthOf(body, seam[2], seam[3])) > t) {
                return s;
            }
        }
        return -1;
    }

    private boolean pointHangs(int number, int measure) {
        Point p = points.get(number);
        switch (p.kind) {
            case 'f':
                return false;
            case 'o':
                return pointHangs(p.p, measure);
            case 'b':
                return p.q == measure || pointHangs(p.p, measure);
            default:
                return pointHangs(p.p, measure) || pointHangs(p.q, measure);
        }
    }

    int hangsOf(int measure, int what) {
        int bits = 0;
        int many = what == 0 ? points.size() : pieces.size();
        for (int i = 0; i < many; i++) {
            boolean hangs = what == 0 ? pointHangs(i, measure)
                : pieces.get(i).stream().anyMatch(p -> pointHangs(p, measure));
            bits += hangs ? 1 << i : 0;
        }
        return bits;
    }

    private int roomOf(int body, int piece, int what) {
        int least = Integer.MAX_VALUE;
        int most = Integer.MIN_VALUE;
        for (int p : pieces.get(piece)) {
            least = Math.min(least, place(body, p, what));
            most = Math.max(most, place(body, p, what));
        }
        return Math.max(1, most - least);
    }

    /** All orders of 0 .. n - 1, first by numbers. */
    static List<int[]> orders(int n) {
        List<int[]> all = new ArrayList<>();
        addOrders(all, new ArrayList<>(), n);
        return all;
    }

    private static void addOrders(List<int[]> all, List<Integer> begun, int n) {
        if (begun.size() == n) {
            all.add(begun.stream().mapToInt(v -> v).toArray());
            return;
        }
        for (int i = 0; i < n; i++) {
            if (!begun.contains(i)) {
                begun.add(i);
                addOrders(all, begun, n);
                begun.remove(begun.size() - 1);
            }
        }
    }

    private int endOf(int[] order, int[] wide, int[] tall) {
        int top = 0;
        int used = 0;
        int tallest = 0;
        for (int piece : order) {
            if (used + wide[piece] > width) {
                top += tallest;
                while (top % check != 0) {
                    top++;
                }
                used = 0;
                tallest = 0;
            }
            used += wide[piece];
            tallest = Math.max(tallest, tall[piece]);
        }
        return top + tallest;
    }

    /** The end, then the order; the end alone where it is NO or NONE. */
    int[] laidFor(int body) {
        int n = pieces.size();
        if (n == 0) {
            return new int[] {-3};
        }
        int[] wide = new int[n];
        int[] tall = new int[n];
        for (int i = 0; i < n; i++) {
            wide[i] = roomOf(body, i, 0);
            tall[i] = roomOf(body, i, 1);
            if (wide[i] > width) {
                return new int[] {-1};
            }
        }
        int least = Integer.MAX_VALUE;
        int[] best = null;
        for (int[] order : orders(n)) {
            int end = endOf(order, wide, tall);
            if (end < least) {
                least = end;
                best = order;
            }
        }
        int[] answer = new int[n + 1];
        answer[0] = least;
        System.arraycopy(best, 0, answer, 1, n);
        return answer;
    }

    /** Late and end of all in an order, by the hours at which each coat leaves each hand. */
    private int[] lateAndEnd(int[] order) {
        int n = order.length;
        int[][] leaves = new int[n + 1][4];
        int late = 0;
        for (int k = 1; k <= n; k++) {
            int[] coat = coats.get(order[k - 1]);
            for (int hand = 1; hand <= 3; hand++) {
                leaves[k][hand] = Math.max(leaves[k - 1][hand], leaves[k][hand - 1]) + coat[hand - 1];
            }
            late += Math.max(0, leaves[k][3] - coat[3]);
        }
        return new int[] {late, leaves[n][3]};
    }

    /** Late, end, then the order. */
    int[] bestOfAll() {
        int[] answer = null;
        for (int[] order : orders(coats.size())) {
            int[] got = lateAndEnd(order);
            if (answer == null || got[0] < answer[0] || got[0] == answer[0] && got[1] < answer[1]) {
                answer = new int[order.length + 2];
                answer[0] = got[0];
                answer[1] = got[1];
                System.arraycopy(order, 0, answer, 2, order.length);
            }
        }
        return answer;
    }

    long digestOf() {
        List<Integer> all = new ArrayList<>(List.of(
            tellings.size(), points.size(), pieces.size(), seams.size(), coats.size()));
        for (int i = 0; i < 36; i++) {
            all.add(measureOf(i / 6, i % 6));
        }
        for (int i = 0; i < points.size(); i++) {
            all.add(place(0, i, 0));
            all.add(place(0, i, 1));
        }
        for (List<Integer> piece : pieces) {
            all.add(piece.size());
            all.addAll(piece);
        }
        seams.forEach(seam -> { for (int v : seam) all.add(v); });
        coats.forEach(coat -> { for (int v : coat) all.add(v); });
        long h = 233;
        for (int v : all) {
            h = 31 * h + v;
        }
        return h;
    }
}
