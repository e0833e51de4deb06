/** Promises 6 to 13: cell, of, edge, unlike, mate, pairs, groups, edges. */
public final class SidesTest {
    private static final String MIXED = "0123 1230 2301 3012";
    private static final String ZEROS = "0000 0000 0000 0000";
    private static final String ONES = "1111 1111 1111 1111";
    /** Its right side is 0120, the others are flat. */
    private static final String LEFT_END = "0000 0001 0002 0000";
    /** Its left side fits LEFT_END, its right side fits RIGHT_END, the others are flat. */
    private static final String MIDDLE = "0000 1003 2003 0000";
    private static final String RIGHT_END = "0000 3000 3000 0000";

    public static void main(String[] args) {
        cell();
        sorts();
        ofOthers();
        edge();
        unlike();
        mate();
        mateTies();
        pairs();
        pairsOfSame();
        groups();
        edges();
        Check.end("SidesTest");
    }

    /** Promise 6. */
    private static void cell() {
        EdgeJoin x = Check.withPieces(ONES, MIXED);
        for (int row = 0; row < 4; row++) {
            for (int column = 0; column < 4; column++) {
                Check.due("cell(1, " + column + ", " + row + ")", x.cell(1, column, row), (column + row) % 4);
            }
        }
        int[][] wrong = {{-1, 0, 0}, {2, 0, 0}, {8, 0, 0}, {0, -1, 0}, {0, 4, 0}, {0, 0, -1}, {0, 0, 4},
            {Integer.MAX_VALUE, 0, 0}, {0, Integer.MIN_VALUE, 0}, {0, 0, Integer.MAX_VALUE}};
        for (int[] a : wrong) {
            Check.refused(x, EdgeJoin.BAD, "cell(" + a[0] + ", " + a[1] + ", " + a[2] + ")",
                () -> x.cell(a[0], a[1], a[2]));
        }
        Check.query(x, "cell(1, 3, 0)", () -> x.cell(1, 3, 0), 3);
    }

    private static void isSort(String piece, int mask, int sort) {
        EdgeJoin x = Check.withPieces(piece);
        for (int t = 0; t < 4; t++) {
            int turnedMask = (mask << t | mask >> (4 - t)) & 15;
            Check.due("of(0, 0) of " + piece + " turned " + t, x.of(0, 0), sort);
            Check.due("of(0, 1) of " + piece + " turned " + t, x.of(0, 1), turnedMask);
            x.turns(0, 1);
        }
    }

    /** Promise 7, with the sorts. */
    private static void sorts() {
        isSort("0000 0111 0111 0111", 9, 0);
        isSort("0000 1111 1111 1111", 1, 1);
        isSort("0000 1111 1111 0000", 5, 1);
        isSort("0110 0110 0110 0110", 10, 1);
        isSort("0000 0110 0110 0110", 11, 0);
        isSort(ZEROS, 15, 0);
        isSort("0000 0330 0330 0000", 15, 0);
        isSort(ONES, 0, 2);
        isSort("1001 0000 0000 1001", 0, 2);
        isSort(RIGHT_END, 7, 0);
    }

    private static void ofOthers() {
        EdgeJoin x = Check.withPieces(LEFT_END, ZEROS, MIDDLE);
        Check.due("of(0, 2)", x.of(0, 2), 0);
        Check.due("of(1, 2)", x.of(1, 2), 1);
        Check.due("of(2, 2)", x.of(2, 2), 0);
        Check.due("of(2, 3) off the table", x.of(2, 3), EdgeJoin.NONE);
        Check.due("of(2, 4) off the table", x.of(2, 4), EdgeJoin.NONE);
        x.puts(7, 2, 3);
        x.puts(0, 0, 0);
        Check.due("of(2, 3)", x.of(2, 3), 7);
        Check.due("of(2, 4)", x.of(2, 4), 3);
        Check.due("of(0, 3)", x.of(0, 3), 0);
        Check.due("of(0, 4)", x.of(0, 4), 0);
        int[][] wrong = {{-1, 0}, {3, 0}, {3, 3}, {8, 4}, {0, -1}, {0, 5}, {Integer.MIN_VALUE, 1}, {1, Integer.MAX_VALUE}};
        for (int[] a : wrong) {
            Check.refused(x, EdgeJoin.BAD, "of(" + a[0] + ", " + a[1] + ")", () -> x.of(a[0], a[1]));
        }
        Check.query(x, "of(1, 4) is no error", () -> x.of(1, 4), EdgeJoin.NONE);
    }

    /** Promise 8. */
    private static void edge() {
        EdgeJoin x = Check.withPieces(ONES, MIXED);
        Check.due("edge(0, 0)", x.edge(0, 0), 64 + 16 + 4 + 1);
        Check.due("edge(1, 0)", x.edge(1, 0), 0 * 64 + 1 * 16 + 2 * 4 + 3);
        Check.due("edge(1, 1)", x.edge(1, 1), 3 * 64 + 0 * 16 + 1 * 4 + 2);
        Check.due("edge(1, 2)", x.edge(1, 2), 2 * 64 + 1 * 16 + 0 * 4 + 3);
        Check.due("edge(1, 3)", x.edge(1, 3), 3 * 64 + 2 * 16 + 1 * 4 + 0);
        x.turns(1, 1);
        Check.due("edge(1, 1) turned", x.edge(1, 1), 27);
        Check.due("edge(1, 0) turned", x.edge(1, 0), 228);
        x.piece(-1);
        Check.due("edge(2, 3) of threes", x.edge(2, 3), 255);
        int[][] wrong = {{-1, 0}, {3, 0}, {0, -1}, {0, 4}, {Integer.MAX_VALUE, 0}, {0, Integer.MIN_VALUE}};
        for (int[] a : wrong) {
            Check.refused(x, EdgeJoin.BAD, "edge(" + a[0] + ", " + a[1] + ")", () -> x.edge(a[0], a[1]));
        }
        Check.query(x, "edge(0, 1)", () -> x.edge(0, 1), 85);
    }

    /** Promise 9. */
    private static void unlike() {
        EdgeJoin x = Check.withPieces(MIXED, MIXED, LEFT_END, MIDDLE, ZEROS);
        Check.due("unlike(0, 0, 1, 0)", x.unlike(0, 0, 1, 0), 3 + 1 + 1 + 3);
        Check.due("unlike(0, 1, 1, 3)", x.unlike(0, 1, 1, 3), 3 + 1 + 1 + 1);
        Check.due("unlike(1, 3, 0, 1)", x.unlike(1, 3, 0, 1), 3 + 1 + 1 + 1);
        Check.due("unlike(0, 0, 1, 3)", x.unlike(0, 0, 1, 3), 0);
        Check.due("unlike(2, 1, 3, 3)", x.unlike(2, 1, 3, 3), 0);
        Check.due("unlike(2, 1, 3, 1)", x.unlike(2, 1, 3, 1), 2 + 1);
        Check.due("unlike(3, 1, 4, 2)", x.unlike(3, 1, 4, 2), 6);
        Check.due("unlike(2, 0, 4, 2), both flat", x.unlike(2, 0, 4, 2), 0);
        int[][] wrong = {{-1, 0, 1, 0}, {5, 0, 1, 0}, {0, -1, 1, 0}, {0, 4, 1, 0}, {0, 0, -1, 0}, {0, 0, 5, 0},
            {0, 0, 1, -1}, {0, 0, 1, 4}, {0, 0, 0, 0}, {3, 1, 3, 2}, {Integer.MIN_VALUE, 0, Integer.MIN_VALUE, 0}};
        for (int[] a : wrong) {
            Check.refused(x, EdgeJoin.BAD, "unlike(" + a[0] + ", " + a[1] + ", " + a[2] + ", " + a[3] + ")",
                () -> x.unlike(a[0], a[1], a[2], a[3]));
        }
        Check.query(x, "unlike(2, 1, 3, 3)", () -> x.unlike(2, 1, 3, 3), 0);
    }

    /** Promise 10. */
    private static void mate() {
        EdgeJoin x = Check.withPieces(LEFT_END, RIGHT_END, MIDDLE, ZEROS);
        Check.query(x, "mate(0, 1)", () -> x.mate(0, 1), 4 * 2 + 3);
        Check.due("mate(2, 3)", x.mate(2, 3), 1);
        Check.due("mate(2, 1)", x.mate(2, 1), 4 * 1 + 3);
        Check.due("mate(1, 3)", x.mate(1, 3), 4 * 2 + 1);
        Check.refused(x, EdgeJoin.NO, "mate(0, 0), flat", () -> x.mate(0, 0));
        Check.refused(x, EdgeJoin.NO, "mate(3, 3), flat", () -> x.mate(3, 3));
        int[][] wrong = {{-1, 0}, {4, 0}, {0, -1}, {0, 4}, {3, 4}, {Integer.MAX_VALUE, 0}, {0, Integer.MIN_VALUE}};
        for (int[] a : wrong) {
            Check.refused(x, EdgeJoin.BAD, "mate(" + a[0] + ", " + a[1] + ")", () -> x.mate(a[0], a[1]));
        }
        EdgeJoin alone = Check.withPieces(ONES);
        Check.query(alone, "mate(0, 0) of a single piece", () -> alone.mate(0, 0), EdgeJoin.NONE);
        alone.piece(0);
        Check.query(alone, "mate(0, 0) beside flat sides", () -> alone.mate(0, 0), EdgeJoin.NONE);
        alone.piece(-1);
        Check.due("mate(0, 0) beside threes", alone.mate(0, 0), 8);
        alone.drops(2);
        Check.due("mate(0, 0) after drops", alone.mate(0, 0), EdgeJoin.NONE);
    }

    private static void mateTies() {
        EdgeJoin x = Check.withPieces(ONES, ONES, ONES);
        for (int s = 0; s < 4; s++) {
            Check.due("mate(0, " + s + ") of same", x.mate(0, s), 4);
            Check.due("mate(1, " + s + ") of same", x.mate(1, s), 0);
            Check.due("mate(2, " + s + ") of same", x.mate(2, s), 0);
        }
        EdgeJoin y = Check.withPieces(ONES, "0000 0222 0222 0222", "2222 2222 2222 2222");
        // Side 1 and side 2 of piece 1 differ from ones by 4 each, as all sides of piece 2 do.
        Check.due("mate(0, 3): the lowest piece and side", y.mate(0, 3), 4 + 1);
        Check.due("mate(2, 0)", y.mate(2, 0), 4 + 1);
    }

    /** Promise 11. */
    private static void pairs() {
        EdgeJoin x = Check.withPieces(LEFT_END, RIGHT_END, MIDDLE, ZEROS);
        Check.query(x, "pairs(-1)", () -> x.pairs(-1), 2);
        Check.query(x, "pairs(0)", () -> x.pairs(0), 32 * 1 + 11);
        Check.query(x, "pairs(1)", () -> x.pairs(1), 32 * 7 + 9);
        Check.query(x, "pairs(2)", () -> x.pairs(2), -5);
        Check.query(x, "pairs(MAX)", () -> x.pairs(Integer.MAX_VALUE), -5);
        Check.refused(x, EdgeJoin.BAD, "pairs(-2)", () -> x.pairs(-2));
        Check.refused(x, EdgeJoin.BAD, "pairs(MIN)", () -> x.pairs(Integer.MIN_VALUE));
        EdgeJoin empty = new EdgeJoin();
        Check.query(empty, "pairs(0) without pieces", () -> empty.pairs(0), -5);
        Check.query(empty, "pairs(-1) without pieces", () -> empty.pairs(-1), 0);
    }

    private static void pairsOfSame() {
        // All other sides choose side 0 of piece 0 or 1, but only these two choose each other.
        EdgeJoin x = Check.withPieces(ONES, ONES, ONES);
        Check.due("pairs(-1) of same", x.pairs(-1), 1);
        Check.due("pairs(0) of same", x.pairs(0), 4);
        Check.due("groups() of same", x.groups(), 2);
        Check.due("of(1, 2) of same", x.of(1, 2), 0);
        Check.due("of(2, 2) of same", x.of(2, 2), 2);
    }

    /** Promise 12. */
    private static void groups() {
        EdgeJoin x = new EdgeJoin();
        Check.query(x, "groups() without pieces", x::groups, 0);
        int[] due = {1, 2, 3, 1};
        String[] pieces = {ZEROS, LEFT_END, "0000 0000 0000 0000", MIDDLE};
        for (int i = 0; i < 3; i++) {
            x.piece(Check.cells(pieces[i]));
            Check.query(x, "groups() with " + (i + 1), x::groups, due[i]);
        }
        x.piece(Check.cells(MIDDLE));
        Check.query(x, "groups() with a pair", x::groups, 3);
        x.piece(Check.cells(RIGHT_END));
        Check.query(x, "groups() by way of the middle", x::groups, 3);
        Check.due("of(4, 2)", x.of(4, 2), 1);
        Check.due("of(3, 2)", x.of(3, 2), 1);
        Check.due("of(2, 2)", x.of(2, 2), 2);
        x.drops(3);
        Check.query(x, "groups() without the middle", x::groups, 3);
        Check.due("of(3, 2): the ends choose each other", x.of(3, 2), 1);
        x.drops(3);
        Check.query(x, "groups() without the right end", x::groups, 3);
    }

    /** Promise 13. */
    private static void edges() {
        EdgeJoin x = new EdgeJoin();
        Check.query(x, "edges(0) without pieces", () -> x.edges(0), 0);
        Check.query(x, "edges(1) without pieces", () -> x.edges(1), 0);
        x.piece(Check.cells(ZEROS));
        Check.query(x, "edges(0) of zeros", () -> x.edges(0), 1);
        x.piece(Check.cells(LEFT_END));
        x.piece(Check.cells(MIDDLE));
        x.piece(Check.cells(RIGHT_END));
        Check.query(x, "edges(0): 0000 0120 0210 0330", () -> x.edges(0), 4);
        Check.query(x, "edges(1): 0120 is 0210 read backwards", () -> x.edges(1), 3);
        x.piece(Check.cells(MIXED));
        Check.query(x, "edges(0): 0123 3012 2103 3210 come", () -> x.edges(0), 8);
        Check.query(x, "edges(1): 0123 and 3012 come", () -> x.edges(1), 5);
        Check.refused(x, EdgeJoin.BAD, "edges(-1)", () -> x.edges(-1));
        Check.refused(x, EdgeJoin.BAD, "edges(2)", () -> x.edges(2));
        Check.refused(x, EdgeJoin.BAD, "edges(MIN)", () -> x.edges(Integer.MIN_VALUE));
    }
}
