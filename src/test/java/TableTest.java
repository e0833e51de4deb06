/** Promises 15 to 20: table, puts, takes, at, cost, next. */
public final class TableTest {
    private static final String ZEROS = "0000 0000 0000 0000";
    private static final String ONES = "1111 1111 1111 1111";
    private static final String TWOS = "2222 2222 2222 2222";
    private static final String THREES = "3333 3333 3333 3333";
    private static final String LEFT_END = "0000 0001 0002 0000";
    private static final String MIDDLE = "0000 1003 2003 0000";
    private static final String RIGHT_END = "0000 3000 3000 0000";

    public static void main(String[] args) {
        table();
        puts();
        putsTurned();
        putsRefused();
        takes();
        at();
        cost();
        next();
        nextTurned();
        nextAfterChanges();
        nextNowhere();
        Check.end("TableTest");
    }

    /** Promise 15. */
    private static void table() {
        EdgeJoin x = Check.withPieces(ONES, TWOS);
        Check.due("table(8, 1)", x.table(8, 1), 0);
        Check.due("told(5)", x.told(5), 8);
        Check.due("told(6)", x.told(6), 1);
        Check.due("told(7)", x.told(7), 3);
        x.puts(7, 1, 0);
        x.puts(0, 0, 0);
        Check.due("table(1, 3)", x.table(1, 3), 2);
        for (int p = 0; p < 3; p++) {
            Check.due("at(" + p + ") of the new table", x.at(p), EdgeJoin.NONE);
        }
        Check.refused(x, EdgeJoin.BAD, "at(3) of 1 by 3", () -> x.at(3));
        Check.due("told(4): the pieces stay", x.told(4), 2);
        Check.due("puts on the new table", x.puts(2, 1, 0), 0);
        int[][] wrong = {{0, 1}, {1, 0}, {9, 1}, {1, 9}, {3, 3}, {8, 8}, {-1, -1}, {5, 2}, {65536, 65536},
            {Integer.MIN_VALUE, 2}, {1, Integer.MAX_VALUE}};
        for (int[] a : wrong) {
            Check.refused(x, EdgeJoin.BAD, "table(" + a[0] + ", " + a[1] + ")", () -> x.table(a[0], a[1]));
        }
        Check.due("table(1, 3), the same again, is a change", x.table(1, 3), 1);
        x.back();
        Check.due("at(2) after back()", x.at(2), 4);
        x.back();
        x.back();
        Check.due("told(5) after back()", x.told(5), 8);
        Check.due("at(7) after back()", x.at(7), 4);
    }

    /** Promise 16. */
    private static void puts() {
        EdgeJoin x = Check.withPieces(ONES, THREES, THREES, ONES, ZEROS, TWOS, TWOS, ONES);
        Check.due("puts on the empty table", x.puts(0, 0, 0), 0);
        Check.due("puts to the right", x.puts(1, 1, 0), 8);
        Check.due("puts below", x.puts(4, 2, 3), 8);
        Check.due("puts between two", x.puts(5, 3, 1), 16);
        Check.due("puts apart", x.puts(3, 4, 0), 0);
        Check.due("puts between three", x.puts(2, 5, 0), 4 + 8);
        Check.due("puts below one, beside one", x.puts(6, 6, 0), 4 + 0);
        Check.due("puts in the last place", x.puts(7, 7, 0), 4 + 4);
        Check.due("cost()", x.cost(), 56);
        Check.due("told(7)", x.told(7), 6);
        EdgeJoin y = Check.withPieces(ONES, THREES);
        y.puts(3, 0, 0);
        Check.due("the end of a row does not touch the next row", y.puts(4, 1, 0), 0);
    }

    private static void putsTurned() {
        for (int t = 0; t < 4; t++) {
            EdgeJoin x = Check.withPieces(LEFT_END, ONES);
            x.table(3, 2);
            x.puts(1, 0, t);
            // Only the right side of LEFT_END is not flat; turned by t it is side 1 + t.
            int[] sides = {3, 1, 2};
            int[] places = {0, 2, 4};
            for (int i = 0; i < 3; i++) {
                int touching = sides[i] == (1 + t) % 4 ? 3 : 4;
                String call = "puts(" + places[i] + ", 1, 0) with t = " + t;
                Check.due(call, x.puts(places[i], 1, 0), touching);
                Check.due("cost() after " + call, x.cost(), touching);
                x.takes(places[i]);
            }
        }
        EdgeJoin y = Check.withPieces(LEFT_END, MIDDLE);
        y.table(1, 2);
        y.puts(0, 0, 1);
        Check.due("both turned by 1", y.puts(1, 1, 1), 0);
        y.takes(1);
        Check.due("turned by 1 and 3", y.puts(1, 1, 3), 3);
    }

    private static void putsRefused() {
        EdgeJoin x = Check.withPieces(ONES, TWOS, THREES);
        x.puts(2, 1, 1);
        int[][] wrong = {{-1, 0, 0}, {8, 0, 0}, {0, -1, 0}, {0, 3, 0}, {0, 0, -1}, {0, 0, 4},
            {Integer.MIN_VALUE, 0, 0}, {0, Integer.MAX_VALUE, 0}, {0, 0, Integer.MIN_VALUE}, {2, 3, 0}, {2, 1, 4}};
        for (int[] a : wrong) {
            Check.refused(x, EdgeJoin.BAD, "puts(" + a[0] + ", " + a[1] + ", " + a[2] + ")",
                () -> x.puts(a[0], a[1], a[2]));
        }
        Check.refused(x, EdgeJoin.NO, "puts on a taken place", () -> x.puts(2, 0, 0));
        Check.refused(x, EdgeJoin.NO, "puts of a piece that is on the table", () -> x.puts(3, 1, 0));
        Check.refused(x, EdgeJoin.NO, "puts of a piece where it is", () -> x.puts(2, 1, 1));
        Check.due("at(2)", x.at(2), 5);
        Check.due("at(3)", x.at(3), EdgeJoin.NONE);
    }

    /** Promise 17. */
    private static void takes() {
        EdgeJoin x = Check.withPieces(ONES, TWOS, THREES);
        x.puts(0, 2, 1);
        x.puts(1, 0, 3);
        Check.due("takes(0)", x.takes(0), 2);
        Check.due("told(7)", x.told(7), 6);
        Check.due("at(0)", x.at(0), EdgeJoin.NONE);
        Check.due("cost()", x.cost(), 0);
        Check.refused(x, EdgeJoin.NO, "takes(0), empty", () -> x.takes(0));
        Check.refused(x, EdgeJoin.BAD, "takes(-1)", () -> x.takes(-1));
        Check.refused(x, EdgeJoin.BAD, "takes(8)", () -> x.takes(8));
        Check.refused(x, EdgeJoin.BAD, "takes(MAX)", () -> x.takes(Integer.MAX_VALUE));
        Check.due("takes(1): piece 0", x.takes(1), 0);
        x.back();
        Check.due("at(1) after back()", x.at(1), 3);
        x.table(2, 1);
        Check.refused(x, EdgeJoin.BAD, "takes(2) of 2 by 1", () -> x.takes(2));
    }

    /** Promise 18. */
    private static void at() {
        EdgeJoin x = Check.withPieces(ONES, TWOS, THREES);
        x.puts(6, 2, 3);
        Check.query(x, "at(6)", () -> x.at(6), 11);
        Check.query(x, "at(7)", () -> x.at(7), EdgeJoin.NONE);
        Check.refused(x, EdgeJoin.BAD, "at(-1)", () -> x.at(-1));
        Check.refused(x, EdgeJoin.BAD, "at(8)", () -> x.at(8));
        Check.refused(x, EdgeJoin.BAD, "at(MIN)", () -> x.at(Integer.MIN_VALUE));
        x.table(1, 1);
        Check.refused(x, EdgeJoin.BAD, "at(1) of 1 by 1", () -> x.at(1));
    }

    /** Promise 19. */
    private static void cost() {
        EdgeJoin x = Check.withPieces(LEFT_END, RIGHT_END, MIDDLE, ONES);
        Check.query(x, "cost() of an empty table", x::cost, 0);
        x.puts(0, 0, 0);
        x.puts(1, 2, 0);
        x.puts(2, 1, 0);
        Check.query(x, "cost() of a row that fits", x::cost, 0);
        x.puts(5, 3, 0);
        Check.query(x, "cost() with ones below", x::cost, 4);
        x.turns(0, 2);
        Check.query(x, "cost() after turns on the table", x::cost, 4 + 3);
        x.drops(0);
        Check.query(x, "cost() after drops from the table", x::cost, 4);
    }

    private static void isNext(EdgeJoin x, int turned, int place, int content, int increase) {
        Check.query(x, "next(" + turned + ", 0)", () -> x.next(turned, 0), place);
        Check.query(x, "next(" + turned + ", 1)", () -> x.next(turned, 1), content);
        Check.query(x, "next(" + turned + ", 2)", () -> x.next(turned, 2), increase);
    }

    /** Promise 20. */
    private static void next() {
        EdgeJoin x = Check.withPieces(ONES, THREES, TWOS);
        isNext(x, 0, 0, 0, 0);
        isNext(x, 1, 0, 0, 0);
        x.puts(5, 0, 2);
        isNext(x, 0, 1, 8, 4);
        isNext(x, 1, 1, 8, 4);
        x.puts(2, 2, 0);
        // Place 1 touches ones and twos, place 3 only twos.
        isNext(x, 0, 3, 4, 4);
        int[][] wrong = {{-1, 0}, {2, 0}, {0, -1}, {0, 3}, {Integer.MAX_VALUE, 0}, {1, Integer.MIN_VALUE}};
        for (int[] a : wrong) {
            Check.refused(x, EdgeJoin.BAD, "next(" + a[0] + ", " + a[1] + ")", () -> x.next(a[0], a[1]));
        }
    }

    private static void nextTurned() {
        EdgeJoin x = Check.withPieces(LEFT_END, RIGHT_END, MIDDLE);
        x.table(1, 3);
        x.puts(0, 0, 1);
        isNext(x, 0, 1, 4, 3);
        isNext(x, 1, 1, 9, 0);
        x.puts(1, 2, 1);
        isNext(x, 1, 2, 5, 0);
        isNext(x, 0, 2, 4, 6);
    }

    /** No other query comes between, so that next itself has to look at the pieces again. */
    private static void nextAfterChanges() {
        EdgeJoin x = Check.withPieces(THREES, ZEROS);
        x.puts(0, 0, 0);
        Check.due("next(0, 2) of zeros", x.next(0, 2), 12);
        x.piece(Check.cells(TWOS));
        Check.due("next(0, 2) after piece", x.next(0, 2), 4);
        x.drops(2);
        Check.due("next(0, 2) after drops", x.next(0, 2), 12);
        x.back();
        Check.due("next(0, 2) after back()", x.next(0, 2), 4);
    }

    private static void nextNowhere() {
        EdgeJoin x = new EdgeJoin();
        isNext(x, 0, EdgeJoin.NONE, EdgeJoin.NONE, EdgeJoin.NONE);
        isNext(x, 1, EdgeJoin.NONE, EdgeJoin.NONE, EdgeJoin.NONE);
        x.piece(7);
        x.puts(3, 0, 0);
        isNext(x, 1, EdgeJoin.NONE, EdgeJoin.NONE, EdgeJoin.NONE);
        x.piece(7);
        x.table(1, 1);
        isNext(x, 0, 0, 0, 0);
        x.puts(0, 1, 0);
        isNext(x, 0, EdgeJoin.NONE, EdgeJoin.NONE, EdgeJoin.NONE);
    }
}
