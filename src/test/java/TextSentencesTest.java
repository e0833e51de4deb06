import java.util.function.ToIntFunction;

/** The sentences of the section "Text", each with a test of its own. */
public final class TextSentencesTest {
    private static final String CELLS = "p0123012301230123;";
    /** One order of each kind, and how many numbers stand in it. */
    private static final String[] ORDERS = {"t4 2;", "a0 1 3;", "x5;", "m7 2 2 1;"};
    /** The bytes next to those that can stand somewhere, and these. */
    private static final String NEAR = "\u0000\t\n\u001f !/0123456789:;<`abloqpmnrstuwxyzPTAXM-+.,\u007f";

    public static void main(String[] args) {
        orders();
        numbersAndSpaces();
        errorPositions();
        Check.end("TextSentencesTest");
    }

    /** Two pieces, the first of them in place 5. */
    private static EdgeJoin scene() {
        EdgeJoin x = Check.withCells(Check.plain(1), Check.rim("12", "00", "33", "01"));
        x.puts(5, 0, 2);
        return x;
    }

    private static void isRead(String orders, int want) {
        EdgeJoin x = scene();
        Check.write(x, orders);
        if (want > 0) {
            Check.due("reads() of '" + orders + "'", x.reads(), want);
            Check.due("told(7) behind '" + orders + "'", x.told(7), 4);
        } else {
            Check.query(x, "reads() of '" + orders + "'", x::reads, want);
        }
        Check.due("told(3) behind '" + orders + "'", x.told(3), orders.length());
    }

    private static void isWrongAt(int position, String orders) {
        isRead(orders, -10 - position);
    }

    private static void orders() {
        Check.sentence("The text has at most 150 bytes.", TextSentencesTest::atMost150);
        Check.sentence("It consists of one or more orders, each followed by a semicolon:",
            TextSentencesTest::ordersAndSemicolons);
        Check.sentence("\"p\" and 16 digits from 0 to 3 (a new piece, with the colors of its cells row by row, as "
            + "piece());", TextSentencesTest::orderP);
        Check.sentence("\"t\" w h (as table());", TextSentencesTest::orderT);
        Check.sentence("\"a\" p k t (as puts());", TextSentencesTest::orderA);
        Check.sentence("\"x\" p (as takes());", TextSentencesTest::orderX);
        Check.sentence("\"m\" seed w h turned (as makes()).", TextSentencesTest::orderM);
    }

    private static void atMost150() {
        EdgeJoin x = scene();
        String orders = "t1 1;".repeat(29) + "t8 1;";
        Check.write(x, orders);
        Check.refused(x, EdgeJoin.FULL, "byte 151", () -> x.type(';'));
        Check.due("reads() of 150 bytes", x.reads(), 30);
        Check.due("told(5)", x.told(5), 8);
        Check.due("clear()", x.clear(), 150);
        Check.due("type() behind clear()", x.type('x'), 1);
        isRead("x5;" + " ".repeat(147), 1);
        isRead(" ".repeat(147) + "x5;", 1);
        isRead("x" + " ".repeat(147) + "5;", 1);
        isRead("p" + (" ".repeat(8) + "3").repeat(14) + " ".repeat(5) + "3" + " ".repeat(14) + "3;", 1);
        isWrongAt(150, " ".repeat(148) + "x5");
        isWrongAt(149, " ".repeat(149) + "5");
    }

    private static void ordersAndSemicolons() {
        isRead("x5;", 1);
        isRead("x5;a5 0 1;", 2);
        isRead("t1 1;".repeat(30), 30);
        isRead("x5;".repeat(50), -1001);
        isWrongAt(0, "");
        isWrongAt(0, ";");
        isWrongAt(3, "x5;;");
        isWrongAt(2, "x5");
        isWrongAt(5, "x5;x5");
        isWrongAt(2, "x5x5;");
        isWrongAt(2, "x5,");
        isWrongAt(17, "p0123012301230123p0123012301230123;");
        isWrongAt(4, "t4 2t4 2;");
    }

    /** The order does what the call does: the same answers behind it, and one state kept; or both are refused. */
    private static void isAs(String order, ToIntFunction<EdgeJoin> call) {
        EdgeJoin x = scene();
        EdgeJoin y = scene();
        Check.write(x, order);
        Check.write(y, order);
        call.applyAsInt(y);
        if (y.told(0) + y.told(1) + y.told(2) > 0) {
            // The call counts its error, the order does not.
            Check.query(x, "reads() of " + order, x::reads, -1000);
            Check.due("errors counted behind " + order, x.told(0) + x.told(1) + x.told(2), 0);
        } else {
            Check.due("reads() of " + order, x.reads(), 1);
            Check.due("digest() behind " + order, x.digest(), y.digest());
        }
    }

    private static void orderP() {
        for (int i = 0; i < 16; i++) {
            for (int color = 0; color < 4; color++) {
                String digits = "0".repeat(i) + color + "0".repeat(15 - i);
                int cells = color << 2 * i;
                isAs("p" + digits + ";", y -> y.piece(cells));
            }
        }
        isAs(CELLS, y -> y.piece(Check.cells("0123 0123 0123 0123")));
        isAs("p3333333333333333;", y -> y.piece(-1));
        isAs("p2333333333333333;", y -> y.piece(-2));
        isRead("m0 8 1 0;" + CELLS, -1001);
        isRead("m0 7 1 0;" + CELLS, 2);
    }

    private static void orderT() {
        for (int w = 0; w <= 9; w++) {
            for (int h = 0; h <= 9; h++) {
                int[] size = {w, h};
                isAs("t" + w + " " + h + ";", y -> y.table(size[0], size[1]));
            }
        }
        isAs("t999999 1;", y -> y.table(999999, 1));
        isAs("t65537 1;", y -> y.table(65537, 1));
        isAs("t257 2;", y -> y.table(257, 2));
    }

    private static void orderA() {
        for (int p = 0; p <= 9; p++) {
            for (int k = 0; k <= 3; k++) {
                for (int t = 0; t <= 5; t++) {
                    int[] a = {p, k, t};
                    isAs("a" + p + " " + k + " " + t + ";", y -> y.puts(a[0], a[1], a[2]));
                }
            }
        }
        isAs("a999999 1 0;", y -> y.puts(999999, 1, 0));
        isAs("a0 999999 0;", y -> y.puts(0, 999999, 0));
        isAs("a0 1 999999;", y -> y.puts(0, 1, 999999));
    }

    private static void orderX() {
        for (int p = 0; p <= 9; p++) {
            int place = p;
            isAs("x" + p + ";", y -> y.takes(place));
        }
        isAs("x999999;", y -> y.takes(999999));
        isRead("x5;x5;", -1001);
    }

    private static void orderM() {
        int[] seeds = {0, 1, 99999, 100000, 999998, 999999};
        for (int seed : seeds) {
            for (int[] size : Check.sizes()) {
                for (int turned = 0; turned <= 2; turned++) {
                    int turn = turned;
                    isAs("m" + seed + " " + size[0] + " " + size[1] + " " + turned + ";",
                        y -> y.makes(seed, size[0], size[1], turn));
                }
            }
        }
        isAs("m1 0 1 0;", y -> y.makes(1, 0, 1, 0));
        isAs("m1 1 0 0;", y -> y.makes(1, 1, 0, 0));
        isAs("m1 9 1 0;", y -> y.makes(1, 9, 1, 0));
        isAs("m1 1 9 0;", y -> y.makes(1, 1, 9, 0));
        isAs("m1 3 3 0;", y -> y.makes(1, 3, 3, 0));
        isAs("m1 1 1 999999;", y -> y.makes(1, 1, 1, 999999));
    }

    private static void numbersAndSpaces() {
        Check.sentence("A number has 1 to 6 digits.", TextSentencesTest::oneToSixDigits);
        Check.sentence("Any number of spaces (code 32) can stand anywhere", TextSentencesTest::spacesAnywhere);
        Check.sentence("except within a number", TextSentencesTest::noSpacesInNumbers);
        Check.sentence("(between the 16 digits they are allowed);", TextSentencesTest::spacesBetweenCells);
        Check.sentence("they are needed only between two numbers.", TextSentencesTest::neededSpaces);
    }

    private static boolean isDigit(char c) {
        return c >= '0' && c <= '9';
    }

    private static void oneToSixDigits() {
        for (String order : ORDERS) {
            for (int i = 0; i < order.length(); i++) {
                if (isDigit(order.charAt(i))) {
                    String head = order.substring(0, i);
                    String tail = order.substring(i);
                    for (int zeros = 0; zeros <= 5; zeros++) {
                        isRead(head + "0".repeat(zeros) + tail, 1);
                    }
                    isWrongAt(i + 6, head + "0".repeat(6) + tail);
                    isWrongAt(i + 6, head + "0".repeat(7) + tail);
                    // Without this number one is missing where the semicolon stands.
                    isWrongAt(order.length() - 2, head + tail.substring(1));
                }
            }
        }
        isRead("x100005;", -1000);
        isRead("x999999;", -1000);
        isWrongAt(7, "x1000005;");
        isRead("x000005 ;", 1);
        isWrongAt(8, "x000005 5;");
    }

    private static void spacesAnywhere() {
        for (String order : ORDERS) {
            for (int i = 0; i <= order.length(); i++) {
                String head = order.substring(0, i);
                String tail = order.substring(i);
                for (int spaces : new int[] {1, 2, 7, 100}) {
                    isRead(head + " ".repeat(spaces) + tail, 1);
                }
                isWrongAt(i, head + "\t" + tail);
                isWrongAt(i, head + "\n" + tail);
                isWrongAt(i, head + (char) 31 + tail);
                isWrongAt(i, head + "!" + tail);
            }
        }
        isRead("   x   5   ;   a   5   0   1   ;   ", 2);
    }

    private static void noSpacesInNumbers() {
        for (String order : ORDERS) {
            for (int i = 0; i < order.length(); i++) {
                if (isDigit(order.charAt(i))) {
                    // A number more: the last one cannot stand there.
                    String orders = order.substring(0, i) + "0 " + order.substring(i);
                    isWrongAt(orders.length() - 2, orders);
                }
            }
        }
        isRead("x000005;", 1);
        isWrongAt(7, "x00000 5;");
        isWrongAt(4, "x 0 0005;");
    }

    private static void spacesBetweenCells() {
        for (int i = 1; i <= 17; i++) {
            isRead(CELLS.substring(0, i) + " " + CELLS.substring(i), 1);
            isRead(CELLS.substring(0, i) + " ".repeat(132) + CELLS.substring(i), 1);
        }
        isRead(CELLS.replaceAll("", " "), 1);
        EdgeJoin x = new EdgeJoin();
        Check.due("reads() of spaced cells", Check.read(x, " p 0 12  3 0123   01 23012 3  ; "), 1);
        Check.due("the cells", x.turns(0, 0), Check.cells("0123 0123 0123 0123"));
    }

    private static void neededSpaces() {
        isRead("t4 2;", 1);
        isRead("a0 1 3;", 1);
        isRead("m7 2 2 1;", 1);
        isRead("x5;t4 2;" + CELLS + "m7 2 2 1;", 4);
        isRead(" x 5 ; t 4 2 ; " + CELLS + " m 7 2 2 1 ; ", 4);
        isWrongAt(3, "t42;");
        isWrongAt(5, "a01 3;");
        isWrongAt(5, "a0 13;");
        isWrongAt(4, "a013;");
        isWrongAt(7, "m72 2 1;");
        isWrongAt(7, "m7 22 1;");
        isWrongAt(7, "m7 2 21;");
        isWrongAt(5, "m7221;");
    }

    private static void errorPositions() {
        Check.sentence("The error position is the index, from 0, of the first byte that cannot stand at its place",
            TextSentencesTest::firstWrongByte);
        Check.sentence("(this includes a seventh digit of a number,", TextSentencesTest::seventhDigit);
        Check.sentence("a seventeenth digit behind p,", TextSentencesTest::seventeenthDigit);
        Check.sentence("and a digit above 3 there);", TextSentencesTest::digitAboveThree);
        Check.sentence("if the text ends too early", TextSentencesTest::endsTooEarly);
        Check.sentence("(also if it is empty or consists of spaces only), it is the length of the text.",
            TextSentencesTest::emptyOrSpaces);
    }

    private static void isAsModel(String orders) {
        EdgeJoin x = new EdgeJoin();
        SlowModel y = new SlowModel();
        x.piece(7);
        y.piece(7);
        x.puts(5, 0, 1);
        y.puts(5, 0, 1);
        for (char c : orders.toCharArray()) {
            x.type(c);
            y.type(c);
        }
        Check.due("reads() of '" + orders + "'", x.reads(), y.reads());
    }

    /** Every byte in the place of every other one, and those that may matter between any two. */
    private static void firstWrongByte() {
        String[] texts = {"x5;", " t8  1 ; x 0;", "a0 1 3;x5 ;", "m7 2 2 1;t000001 1;", "p 0123012301 230123;x"};
        for (String text : texts) {
            for (int i = 0; i < text.length(); i++) {
                for (int c = 0; c < 128; c++) {
                    isAsModel(text.substring(0, i) + (char) c + text.substring(i + 1));
                }
            }
            for (int i = 0; i <= text.length(); i++) {
                for (char c : NEAR.toCharArray()) {
                    isAsModel(text.substring(0, i) + c + text.substring(i));
                }
            }
        }
        isWrongAt(0, "q5;");
        isWrongAt(1, "xq;q");
        isWrongAt(148, " ".repeat(148) + ":5");
        // A wrong byte is found although an order before it would return an error.
        isWrongAt(3, "x0;q");
        isWrongAt(4, "x9;x");
        isRead("x0;x9;", -1000);
    }

    private static void seventhDigit() {
        isRead("x000005;", 1);
        isWrongAt(7, "x0000005;");
        isWrongAt(8, " x0000005;");
        isWrongAt(7, "x1234567");
        isWrongAt(7, "x12345678");
        isWrongAt(9, "t4 0000002;");
        isWrongAt(11, "a0 1 0000003;");
        isWrongAt(13, "m7 2 2 0000001;");
        isWrongAt(7, "m0000007 2 2 1;");
        isWrongAt(7, "x000000q");
    }

    private static void seventeenthDigit() {
        isRead("p0000000000000000;", 1);
        isWrongAt(17, "p00000000000000000;");
        isWrongAt(17, "p00000000000000004;");
        isWrongAt(17, "p00000000000000009");
        isWrongAt(20, "p0000000000000000   0;");
        isWrongAt(34, "p" + " 0".repeat(18) + ";");
        isWrongAt(16, "p000000000000000;");
        isWrongAt(17, "p000000000000000 ;");
    }

    private static void digitAboveThree() {
        for (int i = 1; i <= 16; i++) {
            for (char c = '/'; c <= ':'; c++) {
                String orders = CELLS.substring(0, i) + c + CELLS.substring(i + 1);
                isRead(orders, c >= '0' && c <= '3' ? 1 : -10 - i);
            }
        }
        isWrongAt(3, "p  4000000000000000;");
    }

    private static void endsTooEarly() {
        String[] texts = {"x5;", "x000005;", " t 8 1 ;", "a0 1 3;", "m7 2 2 1;", "p0123 012301230123;", "  x5  ;  x0;"};
        for (String text : texts) {
            for (int length = 0; length < text.length(); length++) {
                String head = text.substring(0, length);
                if (!head.trim().endsWith(";")) {
                    isWrongAt(length, head);
                    isWrongAt(150, head + " ".repeat(150 - length));
                }
            }
            isWrongAt(text.length() + 1, text + "x");
            isWrongAt(text.length() + 2, text + " t");
        }
    }

    private static void emptyOrSpaces() {
        for (int length = 0; length <= 150; length++) {
            isWrongAt(length, " ".repeat(length));
        }
    }
}
