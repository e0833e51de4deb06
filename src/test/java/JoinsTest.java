/** Promise 14: joins. */
public final class JoinsTest {
    private static final String ZEROS = "0000 0000 0000 0000";
    private static final String ONES = "1111 1111 1111 1111";
    private static final String TWOS = "2222 2222 2222 2222";
    private static final String THREES = "3333 3333 3333 3333";
    private static final String LEFT_END = "0000 0001 0002 0000";
    private static final String MIDDLE = "0000 1003 2003 0000";
    private static final String RIGHT_END = "0000 3000 3000 0000";

    public static void main(String[] args) {
        row();
        turnedColumn();
        costs();
        ties();
        single();
        limits();
        wrongInputs();
        Check.end("JoinsTest");
    }

    private static void isArrangement(EdgeJoin x, int[] how, int cost, int... contents) {
        String call = "joins(" + how[0] + ", " + how[1] + ", " + how[2] + ", " + how[3] + ", ";
        Check.query(x, call + "-1)", () -> x.joins(how[0], how[1], how[2], how[3], -1), cost);
        for (int i = 0; i < how[0] * how[1]; i++) {
            int p = i;
            int want = cost == -5 ? -5 : contents[p];
            Check.query(x, call + p + ")", () -> x.joins(how[0], how[1], how[2], how[3], p), want);
        }
    }

    private static void row() {
        EdgeJoin x = Check.withPieces(LEFT_END, RIGHT_END, MIDDLE);
        isArrangement(x, new int[] {3, 1, 0, 0}, 0, 0, 8, 4);
        isArrangement(x, new int[] {3, 1, 0, 1}, 0, 0, 8, 4);
        isArrangement(x, new int[] {3, 1, 1, 1}, 0, 0, 8, 4);
        isArrangement(x, new int[] {1, 3, 0, 1}, -5);
        isArrangement(x, new int[] {1, 3, 0, 0}, 0, 0, 4, 8);
        x.turns(2, 2);
        isArrangement(x, new int[] {3, 1, 0, 1}, 6, 0, 8, 4);
        isArrangement(x, new int[] {3, 1, 1, 1}, 0, 0, 10, 4);
    }

    private static void turnedColumn() {
        EdgeJoin x = Check.withPieces(LEFT_END, RIGHT_END, MIDDLE);
        isArrangement(x, new int[] {1, 3, 1, 1}, 0, 1, 9, 5);
        // Without frame all flat sides may touch, as they do where nothing is turned.
        isArrangement(x, new int[] {1, 3, 1, 0}, 0, 0, 4, 8);
        x.piece(Check.cells(ZEROS));
        isArrangement(x, new int[] {1, 4, 1, 1}, -5);
        isArrangement(x, new int[] {2, 2, 1, 1}, -5);
    }

    private static void costs() {
        // A row costs least in the order of the colors, and the lexicographically first of its two directions is due.
        EdgeJoin x = Check.withPieces(TWOS, ZEROS, THREES, ONES);
        isArrangement(x, new int[] {4, 1, 0, 0}, 12, 4, 12, 0, 8);
        isArrangement(x, new int[] {1, 4, 0, 0}, 12, 4, 12, 0, 8);
        isArrangement(x, new int[] {4, 1, 1, 0}, 12, 4, 12, 0, 8);
        // Two by two: each piece touches two others; a ring of four colors goes up and down, 4 * (3 + 3).
        isArrangement(x, new int[] {2, 2, 0, 0}, 24, 0, 4, 8, 12);
        isArrangement(x, new int[] {2, 2, 0, 1}, -5);
    }

    private static void ties() {
        EdgeJoin x = Check.withPieces(ONES, ONES, ONES, ONES);
        isArrangement(x, new int[] {2, 2, 1, 0}, 0, 0, 4, 8, 12);
        isArrangement(x, new int[] {4, 1, 0, 0}, 0, 0, 4, 8, 12);
    }

    private static void single() {
        EdgeJoin x = Check.withPieces("0000 0120 0030 0000");
        isArrangement(x, new int[] {1, 1, 1, 1}, 0, 0);
        isArrangement(x, new int[] {1, 1, 0, 0}, 0, 0);
        EdgeJoin y = Check.withPieces(ONES);
        isArrangement(y, new int[] {1, 1, 1, 0}, 0, 0);
        isArrangement(y, new int[] {1, 1, 1, 1}, -5);
    }

    private static void limits() {
        EdgeJoin x = new EdgeJoin();
        Check.refused(x, EdgeJoin.NO, "joins(1, 1, 0, 0, -1) without pieces", () -> x.joins(1, 1, 0, 0, -1));
        x.makes(3, 4, 1, 0);
        Check.due("joins of 4 with turns", x.joins(4, 1, 1, 1, -1), 0);
        x.piece(0);
        Check.refused(x, EdgeJoin.NO, "joins of 5 with turns", () -> x.joins(5, 1, 1, 0, -1));
        Check.refused(x, EdgeJoin.NO, "joins of 5 in 4 places", () -> x.joins(4, 1, 0, 0, -1));
        Check.refused(x, EdgeJoin.NO, "joins of 5 in 6 places", () -> x.joins(2, 3, 0, 0, 5));
        Check.refused(x, EdgeJoin.NO, "joins of 5 in 64 places", () -> x.joins(8, 8, 0, 0, 63));
        Check.refused(x, EdgeJoin.BAD, "BAD is before NO", () -> x.joins(8, 8, 0, 0, 64));
        Check.query(x, "joins of 5 without turns, with frame", () -> x.joins(5, 1, 0, 1, -1), -5);
        x.makes(99, 2, 4, 0);
        Check.query(x, "joins of 8", () -> x.joins(2, 4, 0, 1, -1), 0);
        // The best arrangement of a picture is the picture: its corner pieces stand in the corners.
        int[] masks = {9, 3, 8, 2, 8, 2, 12, 6};
        for (int p = 0; p < 8; p++) {
            int content = x.joins(2, 4, 0, 1, p);
            Check.due("t in place " + p, content % 4, 0);
            Check.due("flat sides of the piece in place " + p, x.of(content / 4, 1), masks[p]);
        }
    }

    private static void wrongInputs() {
        EdgeJoin x = Check.withPieces(ONES, TWOS);
        int[][] wrong = {{0, 2, 0, 0, -1}, {9, 2, 0, 0, -1}, {2, 0, 0, 0, -1}, {2, 9, 0, 0, -1}, {-1, -2, 0, 0, -1},
            {2, 1, -1, 0, -1}, {2, 1, 2, 0, -1}, {2, 1, 0, -1, -1}, {2, 1, 0, 2, -1}, {2, 1, 0, 0, -2},
            {2, 1, 0, 0, 2}, {2, 1, 0, 0, Integer.MAX_VALUE}, {65536, 65536, 0, 0, -1}, {3, 1, 2, 0, 0}};
        for (int[] a : wrong) {
            Check.refused(x, EdgeJoin.BAD, "joins(" + a[0] + ", " + a[1] + ", " + a[2] + ", " + a[3] + ", " + a[4] + ")",
                () -> x.joins(a[0], a[1], a[2], a[3], a[4]));
        }
        Check.due("joins(2, 1, 0, 0, 1)", x.joins(2, 1, 0, 0, 1), 4);
    }
}
