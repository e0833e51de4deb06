/** Promises 24 to 26: back, told, digest. */
public final class UndoTest {
    public static void main(String[] args) {
        back();
        backOfEachChange();
        sixStates();
        ring();
        told();
        digestOfNewObject();
        digestOfState();
        constants();
        Check.end("UndoTest");
    }

    /** Promise 24. */
    private static void back() {
        EdgeJoin x = new EdgeJoin();
        Check.refused(x, EdgeJoin.NO, "back() of a new object", x::back);
        x.piece(5);
        x.type('p');
        x.cell(9, 0, 0);
        Check.due("back()", x.back(), 0);
        Check.due("told(4)", x.told(4), 0);
        Check.due("told(3): the text stays", x.told(3), 1);
        Check.due("told(0): the counts stay", x.told(0), 1);
        Check.refused(x, EdgeJoin.NO, "back() cannot be undone", x::back);
    }

    private static void backOfEachChange() {
        EdgeJoin x = new EdgeJoin();
        x.makes(11, 3, 2, 1);
        x.puts(2, 3, 1);
        for (char c : "x2;".toCharArray()) {
            x.type(c);
        }
        for (int change = 0; change < 9; change++) {
            long before = x.digest();
            int kept = x.told(7);
            switch (change) {
                case 0 -> Check.due("piece(9)", x.piece(9), 6);
                case 1 -> x.turns(3, 0);
                case 2 -> Check.due("drops(3)", x.drops(3), 5);
                case 3 -> Check.due("makes", x.makes(1, 1, 1, 0), 1);
                case 4 -> Check.due("table(8, 1)", x.table(8, 1), 1);
                case 5 -> Check.holds("puts(3, 0, 0)", x.puts(3, 0, 0) >= 0);
                case 6 -> Check.due("takes(2)", x.takes(2), 3);
                case 7 -> Check.due("reads()", x.reads(), 1);
                default -> Check.holds("turns(3, 2) turns", x.turns(3, 2) != x.turns(3, 1));
            }
            if (change == 8) {
                x.back();
            }
            Check.due("told(7) after change " + change, x.told(7), kept + 1);
            Check.due("back() of change " + change, x.back(), kept);
            Check.due("digest() after back() of change " + change, x.digest(), before);
        }
    }

    private static void sixStates() {
        EdgeJoin x = new EdgeJoin();
        for (int i = 0; i < 8; i++) {
            x.piece(1000 * i);
            Check.due("told(7) after " + (i + 1) + " changes", x.told(7), Math.min(i + 1, 6));
        }
        for (int left = 5; left >= 0; left--) {
            Check.due("back()", x.back(), left);
            Check.due("told(4)", x.told(4), left + 2);
        }
        Check.refused(x, EdgeJoin.NO, "back(): the oldest states are lost", x::back);
        Check.due("told(4)", x.told(4), 2);
    }

    private static void ring() {
        EdgeJoin x = new EdgeJoin();
        for (int round = 0; round < 5; round++) {
            for (int i = 0; i < 4 + round; i++) {
                x.piece(round);
                x.makes(100 * round + i, i % 8 + 1, 1, 0);
            }
            for (int i = 0; i < 3; i++) {
                x.back();
            }
            // Three of the last changes are undone: makes, piece, makes.
            int lastMakes = 4 + round - 3;
            Check.due("told(4) in round " + round, x.told(4), lastMakes + 1 + 1);
        }
    }

    /** Promise 25. */
    private static void told() {
        EdgeJoin x = new EdgeJoin();
        for (int i = 0; i < 8; i++) {
            x.piece(i);
        }
        x.table(2, 4);
        x.piece(8);
        x.piece(9);
        x.takes(0);
        x.takes(1);
        x.takes(7);
        x.takes(8);
        x.type(65);
        int[] due = {1, 3, 2, 1, 8, 2, 4, 6};
        for (int i = 0; i < 8; i++) {
            int what = i;
            Check.query(x, "told(" + what + ")", () -> x.told(what), due[what]);
        }
        Check.refused(x, EdgeJoin.BAD, "told(-1)", () -> x.told(-1));
        Check.refused(x, EdgeJoin.BAD, "told(8)", () -> x.told(8));
        Check.refused(x, EdgeJoin.BAD, "told(MIN)", () -> x.told(Integer.MIN_VALUE));
        Check.due("told(0) counts its own errors", x.told(0), 4);
    }

    private static long hash(long... numbers) {
        long h = 2389;
        for (long v : numbers) {
            h = 31 * h + v;
        }
        return h;
    }

    /** Promise 26. */
    private static void digestOfNewObject() {
        EdgeJoin x = new EdgeJoin();
        long due = hash(0, 0, 0, 0, 0, 4, 2, 0, -1, -1, -1, -1, -1, -1, -1, -1, 0, 0, 0, 0, 0);
        Check.due("digest() of a new object", x.digest(), due);
        Check.due("digest() again", x.digest(), due);
    }

    private static void digestOfState() {
        EdgeJoin x = Check.withPieces("0000 0001 0002 0000", "3333 3333 3333 3333");
        x.table(2, 1);
        x.puts(1, 0, 2);
        x.type(48);
        x.type(128);
        x.takes(0);
        x.takes(0);
        long end = Check.cells("0000 0001 0002 0000");
        // 0120 and 3333 are the only sides that are not flat, so they are mates: side 1 and the first of piece 1.
        long due = hash(1, 2, 0, 1, 2, 2, 1, 4, end, 0, 13, 0, 1, 2, -1, 2, 0, 0, -1, -1, -1, 2, 0, 1, 1, 3, 3);
        Check.due("digest()", x.digest(), due);
        x.puts(0, 1, 3);
        due = hash(1, 2, 0, 1, 2, 2, 1, 5, end, 0, 13, 0, 1, 2, -1, 2, 0, 0, 0, 3, 7, 2, 9, 1, 1, 3, 3);
        Check.due("digest() with a cost", x.digest(), due);
        EdgeJoin y = Check.withPieces("0000 0001 0002 0000", "0000 1000 2000 0000");
        long other = Check.cells("0000 1000 2000 0000");
        // The edges are 0000, 0120 and 0210, the last two of which are the same read backwards.
        due = hash(0, 0, 0, 0, 2, 4, 2, 2, end, 0, 13, 0, -1, -1, other, 0, 7, 0, -1, -1,
            -1, -1, -1, -1, -1, -1, -1, -1, 0, 1, 1, 3, 2);
        Check.due("digest() with other edges backwards", y.digest(), due);
    }

    private static void constants() {
        Check.due("NONE", EdgeJoin.NONE, -1);
        Check.due("BAD", EdgeJoin.BAD, -2);
        Check.due("NO", EdgeJoin.NO, -3);
        Check.due("FULL", EdgeJoin.FULL, -4);
    }
}
