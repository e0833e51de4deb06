/** Promises 1 to 5: a new object, piece, turns, drops, makes. */
public final class PiecesTest {
    private static final String A = "0123 0000 0000 0000";
    private static final String B = "3210 1111 2222 0123";
    private static final String C = "1111 1001 1001 1111";

    public static void main(String[] args) {
        newObject();
        piece();
        pieceThatLooksLikeAnError();
        turns();
        turnsThatLookLikeErrors();
        turnsOnTable();
        drops();
        dropsFromTable();
        makes();
        makesTable();
        Check.end("PiecesTest");
    }

    /** Promise 1. */
    private static void newObject() {
        EdgeJoin x = new EdgeJoin();
        int[] told = {0, 0, 0, 0, 0, 4, 2, 0};
        for (int what = 0; what < 8; what++) {
            Check.due("told(" + what + ") of a new object", x.told(what), told[what]);
        }
        for (int p = 0; p < 8; p++) {
            Check.due("at(" + p + ") of a new object", x.at(p), EdgeJoin.NONE);
        }
        Check.due("cost() of a new object", x.cost(), 0);
        Check.due("groups() of a new object", x.groups(), 0);
        Check.due("pairs(-1) of a new object", x.pairs(-1), 0);
        Check.due("edges(0) of a new object", x.edges(0), 0);
        Check.due("clear() of a new object", x.clear(), 0);
        Check.refused(x, EdgeJoin.BAD, "cell(0, 0, 0) of a new object", () -> x.cell(0, 0, 0));
        Check.refused(x, EdgeJoin.BAD, "at(8) of a new object", () -> x.at(8));
        Check.refused(x, EdgeJoin.NO, "back() of a new object", x::back);
        Check.due("reads() of a new object", x.reads(), -10);
        Check.due("told(0) of another new object", new EdgeJoin().told(0), 0);
    }

    /** Promise 2. */
    private static void piece() {
        EdgeJoin x = new EdgeJoin();
        Check.due("piece(A)", x.piece(Check.cells(A)), 0);
        Check.due("piece(B)", x.piece(Check.cells(B)), 1);
        Check.due("cell(0, 3, 0)", x.cell(0, 3, 0), 3);
        Check.due("cell(1, 1, 3)", x.cell(1, 1, 3), 1);
        Check.due("told(7) after two pieces", x.told(7), 2);
        for (int i = 2; i < 8; i++) {
            Check.due("piece " + i, x.piece(i), i);
        }
        Check.due("told(7) after eight pieces", x.told(7), 6);
        Check.refused(x, EdgeJoin.FULL, "piece 8", () -> x.piece(8));
        Check.due("told(4) when full", x.told(4), 8);
        Check.due("told(7) when full", x.told(7), 6);
        x.back();
        Check.due("told(4) after back()", x.told(4), 7);
        Check.due("piece after back()", x.piece(-1), 7);
    }

    private static void pieceThatLooksLikeAnError() {
        EdgeJoin x = new EdgeJoin();
        int[] extremes = {-2, -3, -4, -1, Integer.MIN_VALUE, Integer.MAX_VALUE};
        for (int i = 0; i < extremes.length; i++) {
            Check.due("piece(" + extremes[i] + ")", x.piece(extremes[i]), i);
        }
        Check.due("cell(0, 0, 0) of -2", x.cell(0, 0, 0), 2);
        Check.due("cell(0, 3, 3) of -2", x.cell(0, 3, 3), 3);
        Check.due("cell(4, 3, 3) of the least int", x.cell(4, 3, 3), 2);
        Check.due("cell(4, 2, 3) of the least int", x.cell(4, 2, 3), 0);
        Check.due("cell(5, 3, 3) of the greatest int", x.cell(5, 3, 3), 1);
        for (int what = 0; what < 3; what++) {
            Check.due("told(" + what + ")", x.told(what), 0);
        }
    }

    /** Promise 3. */
    private static void turns() {
        String[] turned = {A, "0000 0001 0002 0003", "0000 0000 0000 3210", "3000 2000 1000 0000"};
        for (int t = 0; t < 4; t++) {
            EdgeJoin x = Check.withPieces(B, A);
            Check.due("turns(1, " + t + ")", x.turns(1, t), Check.cells(turned[t]));
            Check.due("told(7) after turns(1, " + t + ")", x.told(7), 3);
            for (int y = 0; y < 4; y++) {
                for (int c = 0; c < 4; c++) {
                    int want = turned[t].replace(" ", "").charAt(4 * y + c) - '0';
                    Check.due("cell(1, " + c + ", " + y + ") turned by " + t, x.cell(1, c, y), want);
                }
            }
            Check.due("turns(0, 0)", x.turns(0, 0), Check.cells(B));
            x.back();
            x.back();
            Check.due("cell(1, 3, 0) after back()", x.cell(1, 3, 0), 3);
        }
        EdgeJoin x = Check.withPieces("0123 1230 2301 3012", C);
        Check.due("turns of all cells", x.turns(0, 1), Check.cells("3210 0321 1032 2103"));
        Check.refused(x, EdgeJoin.BAD, "turns(-1, 0)", () -> x.turns(-1, 0));
        Check.refused(x, EdgeJoin.BAD, "turns(2, 0)", () -> x.turns(2, 0));
        Check.refused(x, EdgeJoin.BAD, "turns(0, -1)", () -> x.turns(0, -1));
        Check.refused(x, EdgeJoin.BAD, "turns(0, 4)", () -> x.turns(0, 4));
        Check.refused(x, EdgeJoin.BAD, "turns(MAX, MIN)", () -> x.turns(Integer.MAX_VALUE, Integer.MIN_VALUE));
    }

    private static void turnsThatLookLikeErrors() {
        EdgeJoin x = new EdgeJoin();
        int[] codes = {-1, -2, -3, -4, -5};
        for (int p = 0; p < codes.length; p++) {
            x.piece(codes[p]);
            Check.due("turns(" + p + ", 0)", x.turns(p, 0), codes[p]);
            Check.due("told(4)", x.told(4), p + 1);
        }
        x.turns(1, 1);
        Check.due("turns(1, 3) back to -2", x.turns(1, 3), -2);
        Check.due("told(0)", x.told(0), 0);
        Check.due("told(1)", x.told(1), 0);
        Check.due("told(2)", x.told(2), 0);
        Check.due("told(7)", x.told(7), 6);
    }

    private static void turnsOnTable() {
        EdgeJoin x = Check.withPieces(A);
        x.puts(5, 0, 2);
        x.turns(0, 1);
        Check.due("at(5) after turns", x.at(5), 2);
        Check.due("of(0, 4) after turns", x.of(0, 4), 2);
        Check.due("of(0, 3) after turns", x.of(0, 3), 5);
    }

    /** Promise 4. */
    private static void drops() {
        EdgeJoin x = Check.withPieces(A, B, C);
        Check.refused(x, EdgeJoin.BAD, "drops(-1)", () -> x.drops(-1));
        Check.refused(x, EdgeJoin.BAD, "drops(3)", () -> x.drops(3));
        Check.due("drops(0)", x.drops(0), 2);
        Check.due("told(7) after drops", x.told(7), 4);
        Check.due("cell(0, 0, 0) is B's", x.cell(0, 0, 0), 3);
        Check.due("cell(1, 0, 0) is C's", x.cell(1, 0, 0), 1);
        Check.refused(x, EdgeJoin.BAD, "cell(2, 0, 0)", () -> x.cell(2, 0, 0));
        Check.due("drops(1)", x.drops(1), 1);
        Check.due("drops(0)", x.drops(0), 0);
        Check.refused(x, EdgeJoin.BAD, "drops(0) without pieces", () -> x.drops(0));
        Check.due("back()", x.back(), 5);
        Check.due("told(4) after back()", x.told(4), 1);
        Check.due("cell(0, 0, 0) after back()", x.cell(0, 0, 0), 3);
    }

    private static void dropsFromTable() {
        EdgeJoin x = Check.withPieces(A, B, C);
        x.puts(0, 2, 3);
        x.puts(3, 1, 1);
        x.puts(7, 0, 2);
        Check.due("drops(1) on the table", x.drops(1), 2);
        Check.due("at(0): C is 1 now", x.at(0), 4 + 3);
        Check.due("at(3) is empty now", x.at(3), EdgeJoin.NONE);
        Check.due("at(7): A is still 0", x.at(7), 2);
        Check.due("of(1, 3)", x.of(1, 3), 0);
        x.back();
        Check.due("at(3) after back()", x.at(3), 4 + 1);
        Check.due("at(0) after back()", x.at(0), 8 + 3);
    }

    /** Promise 5; the pictures themselves are compared with the slow model in RandomRunsTest. */
    private static void makes() {
        EdgeJoin x = Check.withPieces(A);
        Check.refused(x, EdgeJoin.BAD, "makes(-1, 1, 1, 0)", () -> x.makes(-1, 1, 1, 0));
        Check.refused(x, EdgeJoin.BAD, "makes(1000000, 1, 1, 0)", () -> x.makes(1000000, 1, 1, 0));
        Check.refused(x, EdgeJoin.BAD, "makes(0, 0, 1, 0)", () -> x.makes(0, 0, 1, 0));
        Check.refused(x, EdgeJoin.BAD, "makes(0, 1, 0, 0)", () -> x.makes(0, 1, 0, 0));
        Check.refused(x, EdgeJoin.BAD, "makes(0, 9, 1, 0)", () -> x.makes(0, 9, 1, 0));
        Check.refused(x, EdgeJoin.BAD, "makes(0, 1, 9, 0)", () -> x.makes(0, 1, 9, 0));
        Check.refused(x, EdgeJoin.BAD, "makes(0, -1, -1, 0)", () -> x.makes(0, -1, -1, 0));
        Check.refused(x, EdgeJoin.BAD, "makes(0, 3, 3, 0)", () -> x.makes(0, 3, 3, 0));
        Check.refused(x, EdgeJoin.BAD, "makes(0, 65536, 65536, 0)", () -> x.makes(0, 65536, 65536, 0));
        Check.refused(x, EdgeJoin.BAD, "makes(0, 1, 1, -1)", () -> x.makes(0, 1, 1, -1));
        Check.refused(x, EdgeJoin.BAD, "makes(0, 1, 1, 2)", () -> x.makes(0, 1, 1, 2));
        Check.due("makes(0, 1, 1, 0)", x.makes(0, 1, 1, 0), 1);
        // From the seed 0 the first step leads to 12345.
        long first = 12345L;
        long second = (1103515245L * first + 12345L) % 2147483648L;
        Check.due("the first point", x.cell(0, 1, 1), first / 65536 % 3 + 1);
        Check.due("the second point", x.cell(0, 2, 1), second / 65536 % 3 + 1);
        Check.due("of(0, 1) of a single piece", x.of(0, 1), 15);
        Check.due("makes(999999, 8, 1, 1)", x.makes(999999, 8, 1, 1), 8);
        Check.due("makes(999999, 1, 8, 1)", x.makes(999999, 1, 8, 1), 8);
        Check.due("told(7)", x.told(7), 4);
    }

    private static void makesTable() {
        EdgeJoin x = Check.withPieces(A, B);
        x.puts(0, 1, 1);
        Check.due("makes(5, 2, 3, 0)", x.makes(5, 2, 3, 0), 6);
        Check.due("told(5)", x.told(5), 2);
        Check.due("told(6)", x.told(6), 3);
        for (int p = 0; p < 6; p++) {
            Check.due("at(" + p + ") after makes", x.at(p), EdgeJoin.NONE);
        }
        x.back();
        Check.due("told(4) after back()", x.told(4), 2);
        Check.due("told(5) after back()", x.told(5), 4);
        Check.due("at(0) after back()", x.at(0), 5);
    }
}
