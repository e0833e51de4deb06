/** Promises 21 to 23: type, clear, reads. */
public final class TextTest {
    private static final String ZEROS = "p0000 0000 0000 0000;";

    public static void main(String[] args) {
        type();
        clear();
        readsOrders();
        spaces();
        numbers();
        errorPositions();
        errorsOfCells();
        orderErrors();
        oneChange();
        longTexts();
        Check.end("TextTest");
    }

    /** Promise 21. */
    private static void type() {
        EdgeJoin x = new EdgeJoin();
        Check.due("type(0)", x.type(0), 1);
        Check.due("type(127)", x.type(127), 2);
        Check.refused(x, EdgeJoin.BAD, "type(-1)", () -> x.type(-1));
        Check.refused(x, EdgeJoin.BAD, "type(128)", () -> x.type(128));
        Check.refused(x, EdgeJoin.BAD, "type(MIN)", () -> x.type(Integer.MIN_VALUE));
        for (int i = 3; i <= 150; i++) {
            Check.due("type(32), byte " + i, x.type(32), i);
        }
        Check.refused(x, EdgeJoin.FULL, "type(32), byte 151", () -> x.type(32));
        Check.refused(x, EdgeJoin.BAD, "BAD is before FULL", () -> x.type(128));
        Check.due("told(3)", x.told(3), 150);
        Check.due("told(7): type is no change", x.told(7), 0);
    }

    /** Promise 22. */
    private static void clear() {
        EdgeJoin x = new EdgeJoin();
        Check.query(x, "clear() of an empty text", x::clear, 0);
        x.type('x');
        x.type(';');
        Check.due("clear()", x.clear(), 2);
        Check.due("told(3)", x.told(3), 0);
        Check.due("told(7): clear is no change", x.told(7), 0);
        Check.due("reads() after clear()", x.reads(), -10);
        for (int i = 0; i < 150; i++) {
            x.type(59);
        }
        Check.due("clear() of a full text", x.clear(), 150);
        Check.due("type() after clear()", x.type('t'), 1);
    }

    /** Promise 23. */
    private static void readsOrders() {
        EdgeJoin x = new EdgeJoin();
        Check.due("reads() of new pieces", Check.read(x, "p0123123023013012;p1111111111111111;"), 2);
        Check.due("told(4)", x.told(4), 2);
        Check.due("edge(0, 1)", x.edge(0, 1), 3 * 64 + 4 + 2);
        Check.due("edge(1, 2)", x.edge(1, 2), 85);
        Check.due("told(3): the text stays", x.told(3), 36);
        Check.due("reads() once more", x.reads(), 2);
        Check.due("told(4)", x.told(4), 4);
        Check.due("reads() of a table", Check.read(x, "t2 3;a5 1 3;a0 0 0;a 2 2 1;"), 4);
        Check.due("told(5)", x.told(5), 2);
        Check.due("told(6)", x.told(6), 3);
        Check.due("at(5)", x.at(5), 7);
        Check.due("at(0)", x.at(0), 0);
        Check.due("at(2)", x.at(2), 9);
        Check.due("reads() of x", Check.read(x, "x5;"), 1);
        Check.due("at(5)", x.at(5), EdgeJoin.NONE);
        Check.due("reads() of m", Check.read(x, "m 7 2 2 0;"), 1);
        EdgeJoin y = new EdgeJoin();
        y.makes(7, 2, 2, 0);
        for (int p = 0; p < 4; p++) {
            for (int s = 0; s < 4; s++) {
                Check.due("edge(" + p + ", " + s + ") of m", x.edge(p, s), y.edge(p, s));
            }
        }
        Check.due("told(5) after m", x.told(5), 2);
        Check.due("told(6) after m", x.told(6), 2);
        for (int what = 0; what < 3; what++) {
            Check.due("told(" + what + ")", x.told(what), 0);
        }
    }

    private static void isRead(String orders, int want) {
        EdgeJoin x = Check.withPieces("1111 1111 1111 1111", "2222 2222 2222 2222");
        x.puts(0, 0, 0);
        x.clear();
        for (char c : orders.toCharArray()) {
            x.type(c);
        }
        if (want < 0) {
            Check.query(x, "reads() of '" + orders + "'", x::reads, want);
            Check.due("told(7) after '" + orders + "'", x.told(7), 3);
        } else {
            Check.due("reads() of '" + orders + "'", x.reads(), want);
            Check.due("told(7) after '" + orders + "'", x.told(7), 4);
        }
        Check.due("told(0) after '" + orders + "'", x.told(0), 0);
        Check.due("told(1) after '" + orders + "'", x.told(1), 0);
        Check.due("told(2) after '" + orders + "'", x.told(2), 0);
    }

    private static void spaces() {
        isRead("x0;", 1);
        isRead("   x   0   ;   ", 1);
        isRead("x0 ;a0 0 0; x 0;", 3);
        isRead("t8 1;", 1);
        isRead("  t  8   1  ;  t 1  8;", 2);
        isRead("p0 1 2 3 0123   01230123;", 1);
        isRead(" p 0 0 0 0 0 0 0 0 0 0 0 0 0 0 0 3 ; ", 1);
        isRead("a1 1 1;", 1);
        isRead("m1 2 3 1;", 1);
        isRead("x0;   ", 1);
    }

    private static void numbers() {
        isRead("x000000;", 1);
        isRead("x0000000;", -10 - 7);
        isRead("x 0000000;", -10 - 8);
        isRead("x123456;", -1000);
        isRead("x1234567;", -10 - 7);
        isRead("t000002 000004;", 1);
        isRead("t0000002 4;", -10 - 7);
        isRead("t2 0000004;", -10 - 9);
        isRead("m999999 1 1 1;", 1);
        isRead("m1000000 1 1 1;", -10 - 7);
        isRead("m1 1 1 2;", -1000);
    }

    private static void errorPositions() {
        isRead("", -10);
        isRead(" ", -11);
        isRead("     ", -15);
        isRead(";", -10);
        isRead("  ;", -12);
        isRead("0", -10);
        isRead("q", -10);
        isRead("X0;", -10);
        isRead("\tx0;", -10);
        isRead("x", -11);
        isRead("x ", -12);
        isRead("x0", -12);
        isRead("x0  ", -14);
        isRead("x;", -11);
        isRead("x ;", -12);
        isRead("x-1;", -11);
        isRead("x+1;", -11);
        isRead("x0/", -12);
        isRead("x:;", -11);
        isRead("x0:", -12);
        isRead("x0 0;", -10 - 3);
        isRead("x\t0;", -11);
        isRead("xx0;", -11);
        isRead("x0;;", -10 - 3);
        isRead("x0; ;", -10 - 4);
        isRead("x0;x", -10 - 4);
        isRead("x0;q", -10 - 3);
        isRead("x0;0", -10 - 3);
        isRead("t1;", -10 - 2);
        isRead("t11;", -10 - 3);
        isRead("t1 ;", -10 - 3);
        isRead("t1 1", -10 - 4);
        isRead("t1 1 1;", -10 - 5);
        isRead("t1,1;", -10 - 2);
        isRead("t1 1x", -10 - 4);
        isRead("a0 0;", -10 - 4);
        isRead("a0 0 0 0;", -10 - 7);
        isRead("a000;", -10 - 4);
        isRead("m1 2 2;", -10 - 6);
        isRead("m1 2 2 0 0;", -10 - 9);
        isRead("m 1 2 2 0", -10 - 9);
        isRead("x\u0000;", -11);
        isRead("x0\u007f;", -12);
    }

    private static void errorsOfCells() {
        isRead("p", -11);
        isRead("p;", -11);
        isRead("p4", -11);
        isRead("p/", -11);
        isRead("p 9", -12);
        isRead("p0123", -10 - 5);
        isRead("p0123;", -10 - 5);
        isRead("p0123 x", -10 - 6);
        isRead("p0123012301230123", -10 - 17);
        isRead("p0123012301230123 ", -10 - 18);
        isRead("p01230123012301230;", -10 - 17);
        isRead("p0123012301230123 3;", -10 - 18);
        isRead("p01230123012301234;", -10 - 17);
        isRead("p0123012301230124;", -10 - 16);
        isRead("p012301230123012;", -10 - 16);
        isRead("p0123012301230123;p0123012301230123;", 2);
    }

    private static void orderErrors() {
        isRead("x1;", -1000);
        isRead("x0;x0;", -1001);
        isRead("x8;", -1000);
        isRead("t2 2;t3 3;", -1001);
        isRead("t0 1;", -1000);
        isRead("a0 1 0;", -1000);
        isRead("a1 0 0;", -1000);
        isRead("a1 1 4;", -1000);
        isRead("a1 2 0;", -1000);
        isRead("x0;a0 0 0;a1 1 3;x1;x2;", -1004);
        isRead("m1 2 2 0;m1 2 2 2;", -1001);
        isRead("m1 8 1 0;" + ZEROS, -1001);
        isRead("m1 7 1 0;" + ZEROS, 2);
        // An error in the text comes before those of the orders.
        isRead("x1;q", -10 - 3);
        isRead("x1;x", -10 - 4);
    }

    private static void oneChange() {
        EdgeJoin x = Check.withPieces("1111 1111 1111 1111");
        x.puts(3, 0, 1);
        int first = x.told(4);
        Check.due("reads() of a change", Check.read(x, ZEROS + "t1 2;a1 0 0;m3 2 2 1;"), 4);
        Check.due("told(7)", x.told(7), 3);
        Check.due("told(4)", x.told(4), 4);
        Check.due("back()", x.back(), 2);
        Check.due("told(4) after back()", x.told(4), first);
        Check.due("told(5) after back()", x.told(5), 4);
        Check.due("at(3) after back()", x.at(3), 1);
        Check.due("told(3) after back()", x.told(3), 42);
        Check.due("reads() that fails late", Check.read(x, ZEROS + "x3;m3 2 2 1;x0;"), -1003);
        Check.due("told(4) after it", x.told(4), 1);
        Check.due("at(3) after it", x.at(3), 1);
        Check.due("told(7) after it", x.told(7), 2);
        Check.due("reads() of nothing new", Check.read(x, "x3;a3 0 1;"), 2);
        Check.due("told(7): it is a change all the same", x.told(7), 3);
    }

    private static void longTexts() {
        isRead("x0;".repeat(50), -1001);
        isRead("t1 1;".repeat(30), 30);
        isRead("t1 1;".repeat(29) + "t1 1 ", -10 - 150);
        isRead("x0;" + " ".repeat(147), 1);
        isRead(" ".repeat(147) + "x0;", 1);
        isRead(" ".repeat(148) + "x0", -10 - 150);
        isRead("x0;a0 0 0;".repeat(15), 30);
    }
}
