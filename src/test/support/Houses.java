/** Houses that several tests begin with. */
final class Houses {
    private Houses() {
    }

    /** Points 0 (0, 0), 1 (30, 0), 2 (30, 40), 3 (0, 40). */
    static TailorHouse withRectangle() {
        TailorHouse x = new TailorHouse();
        x.fixed(0, 0);
        x.fixed(30, 0);
        x.fixed(30, 40);
        x.fixed(0, 40);
        return x;
    }

    /** A piece of the given room, from points of its own. */
    static void addPiece(TailorHouse x, int width, int height) {
        int corner = x.fixed(-17, 23);
        int opposite = x.off(corner, width, height);
        x.piece(opposite, corner, corner, -1);
    }

    static TailorHouse withPieces(int w, int p, int[][] rooms) {
        TailorHouse x = new TailorHouse();
        x.cloth(w, p);
        for (int[] room : rooms) {
            addPiece(x, room[0], room[1]);
        }
        return x;
    }

    static TailorHouse withCoats(int[][] coats) {
        TailorHouse x = new TailorHouse();
        for (int[] c : coats) {
            x.coat(c[0], c[1], c[2], c[3]);
        }
        return x;
    }

    /** One telling of 3000 of measure 0 of body 0, and point 0 at (0, 0). */
    static TailorHouse withLongMeasure() {
        TailorHouse x = new TailorHouse();
        x.tell(0, 0, 0, 0, 3000);
        x.fixed(0, 0);
        return x;
    }

    /** Two tellings, 4 points, pieces of 3 and 4 points, a seam, two coats. */
    static TailorHouse half() {
        TailorHouse x = withRectangle();
        x.tell(0, 0, 0, 3, 100);
        x.tell(1, 0, 0, 3, 107);
        x.habit(1, 0, 5);
        x.cloth(60, 7);
        x.piece(0, 1, 2, -1);
        x.piece(0, 1, 2, 3);
        x.seam(0, 2, 1, 3);
        x.coat(3, 3, 3, 9);
        x.coat(1, 5, 1, 7);
        return x;
    }

    /** Every row full: 40 tellings, 20 points, 7 pieces of 8 points, 10 seams, 6 coats; 136 calls. */
    static TailorHouse full() {
        TailorHouse x = new TailorHouse();
        for (int i = 0; i < 40; i++) {
            x.tell(i % 4, i / 4 % 6, i / 2 % 6, i % 3 * 5000, 90 + 37 * i % 200);
        }
        for (int i = 0; i < 24; i++) {
            x.habit(i / 6, i % 6, 7 * i % 101 - 50);
        }
        x.fixed(0, 0);
        for (int i = 1; i < 20; i++) {
            addPoint(x, i);
        }
        x.cloth(2000, 30);
        for (int i = 0; i < 7; i++) {
            x.piece(i, i + 1, 19 - i, 2 * i);
            for (int j = 0; j < 4; j++) {
                x.more(i, (5 * i + 3 * j) % 20);
            }
        }
        for (int i = 0; i < 10; i++) {
            x.seam(i % 7, i % 8, (i + 3) % 7, 7 - i % 8);
        }
        for (int i = 0; i < 6; i++) {
            x.coat(1 + 7 * i % 50, 50 - 9 * i, 1 + 11 * i % 50, 40 + 30 * (5 - i));
        }
        return x;
    }

    private static void addPoint(TailorHouse x, int i) {
        switch (i % 4) {
            case 0 -> x.fixed(13 * i % 50, -7 * i % 40);
            case 1 -> x.by(i - 1, i / 4, i % 5 + 1, i % 3 + 2, i / 4 % 2);
            case 2 -> x.middle(i - 1, i / 2);
            default -> x.off(i - 2, 5 * i % 23 - 9, 3 * i % 17 - 6);
        }
    }
}
