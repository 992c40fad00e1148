import java.util.ArrayList;
import java.util.List;

/**
 * All that can be asked of a house, and what some calls behind it answer. It changes the house
 * (a habit is told only by the call that changes it), so that a house is asked once, at its end.
 */
final class Snapshot {
    private Snapshot() {
    }

    static List<Long> of(TailorHouse x) {
        List<Long> seen = new ArrayList<>();
        seen.add(x.digest());
        addBodies(x, seen);
        addDrafts(x, seen);
        addClothAndCoats(x, seen);
        addWhatComesNext(x, seen);
        return seen;
    }

    private static void addBodies(TailorHouse x, List<Long> seen) {
        for (int measure = 0; measure < 6; measure++) {
            for (int body = 0; body < 6; body++) {
                seen.add((long) x.grown(body, measure));
            }
            for (int pair = 0; pair < 16; pair++) {
                seen.add((long) x.found(measure, pair / 4, pair % 4));
            }
        }
    }

    private static void addDrafts(TailorHouse x, List<Long> seen) {
        for (int i = 0; i < 6; i++) {
            seen.add((long) x.hangs(i, 0));
            seen.add((long) x.hangs(i, 1));
            seen.add((long) x.gaps(i, 10));
        }
    }

    private static void addClothAndCoats(TailorHouse x, List<Long> seen) {
        for (int i = 0; i < 7; i++) {
            seen.add((long) x.laid(i));
            seen.add((long) x.laidAt(0, i));
            seen.add((long) x.coatAt(i));
            seen.add((long) x.best(i % 2));
        }
    }

    /** The cloth shows where there is a piece alone, a free number where one is given alone. */
    private static void addWhatComesNext(TailorHouse x, List<Long> seen) {
        for (int i = 0; i < 24; i++) {
            seen.add((long) x.habit(i / 6, i % 6, 0));
        }
        int corner = x.fixed(0, 0);
        int opposite = x.off(Math.max(corner, 0), 55, 51);
        seen.add((long) corner);
        seen.add((long) opposite);
        seen.add((long) x.piece(0, Math.max(corner, 0), Math.max(opposite, 0), -1));
        seen.add((long) x.piece(0, Math.max(corner, 0), Math.max(opposite, 0), 0));
        seen.add((long) x.more(0, 0));
        seen.add((long) x.seam(0, 0, 0, 0));
        seen.add((long) x.coat(1, 2, 3, 4));
        seen.add((long) x.tell(0, 0, 0, 1, 1));
        seen.add((long) x.laid(0));
        seen.add(x.digest());
    }
}
