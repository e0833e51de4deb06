import java.util.function.IntSupplier;

/** What the tests share: comparing answers, writing pieces and texts. */
final class Check {
    private static int wrong = 0;

    private Check() {
    }

    static void due(String call, long got, long want) {
        if (got != want) {
            wrong++;
            System.out.println(call + " answered " + got + ", due is " + want);
        }
    }

    static void holds(String what, boolean fine) {
        if (!fine) {
            wrong++;
            System.out.println("does not hold: " + what);
        }
    }

    static int failures() {
        return wrong;
    }

    /** The end of each test's main method. */
    static void end(String name) {
        System.out.println(name + ": " + (wrong == 0 ? "all answers are as due" : wrong + " answers are not as due"));
        if (wrong != 0) {
            System.exit(1);
        }
    }

    /**
     * Checks that a call returns the error and changes nothing but the error's count. The digest shows it: the count is
     * one of the numbers in it, and one more there adds a known power of 31.
     */
    static void refused(EdgeJoin x, int error, String call, IntSupplier doCall) {
        int numbers = 8 + 6 * x.told(4) + x.told(5) * x.told(6) + 5;
        int index = EdgeJoin.BAD - error;
        long weight = 1;
        for (int i = index + 1; i < numbers; i++) {
            weight *= 31;
        }
        int counted = x.told(index);
        long before = x.digest();
        due(call, doCall.getAsInt(), error);
        due("told(" + index + ") after " + call, x.told(index), counted + 1);
        due("digest() after " + call, x.digest(), before + weight);
    }

    /** Checks that a call returns an answer, counts no error and changes nothing. */
    static void query(EdgeJoin x, String call, IntSupplier doCall, int want) {
        long before = x.digest();
        due(call, doCall.getAsInt(), want);
        due("digest() after " + call, x.digest(), before);
    }

    /** Runs the test of one sentence of the document, and says so if that one is broken. */
    static void sentence(String words, Runnable test) {
        int before = wrong;
        test.run();
        if (wrong != before) {
            System.out.println("broken is: " + words);
        }
    }

    /** A piece of one color. */
    static int plain(int color) {
        return 0x55555555 * color;
    }

    /** A piece with zeros inside and in its corners; between them each side has two digits, clockwise. */
    static int rim(String top, String right, String bottom, String left) {
        return cells("0" + top + "0"
            + left.charAt(1) + "00" + right.charAt(0)
            + left.charAt(0) + "00" + right.charAt(1)
            + "0" + bottom.charAt(1) + bottom.charAt(0) + "0");
    }

    static EdgeJoin withCells(int... pieces) {
        EdgeJoin x = new EdgeJoin();
        for (int i = 0; i < pieces.length; i++) {
            due("piece(" + pieces[i] + ")", x.piece(pieces[i]), i);
        }
        return x;
    }

    static EdgeJoin withSame(int count, int cells) {
        EdgeJoin x = new EdgeJoin();
        for (int i = 0; i < count; i++) {
            due("piece(" + cells + ")", x.piece(cells), i);
        }
        return x;
    }

    /** All the sizes that a table can have, as the document says. */
    static int[][] sizes() {
        int[][] all = new int[20][];
        int found = 0;
        for (int w = 1; w <= 8; w++) {
            for (int h = 1; w * h <= 8; h++) {
                all[found] = new int[] {w, h};
                found++;
            }
        }
        return all;
    }

    /** A piece from its digits row by row; spaces are passed over. */
    static int cells(String digits) {
        int cells = 0;
        int i = 0;
        for (char c : digits.toCharArray()) {
            if (c != ' ') {
                cells |= (c - '0') << 2 * i;
                i++;
            }
        }
        holds("16 digits in " + digits, i == 16);
        return cells;
    }

    static EdgeJoin withPieces(String... pieces) {
        EdgeJoin x = new EdgeJoin();
        for (int i = 0; i < pieces.length; i++) {
            due("piece(" + pieces[i] + ")", x.piece(cells(pieces[i])), i);
        }
        return x;
    }

    /** Clears the text and types another one. */
    static void write(EdgeJoin x, String orders) {
        x.clear();
        for (char c : orders.toCharArray()) {
            x.type(c);
        }
        due("told(3) behind '" + orders + "'", x.told(3), orders.length());
    }

    /** Writes a text and answers what reads() does. */
    static int read(EdgeJoin x, String orders) {
        write(x, orders);
        return x.reads();
    }
}
