import java.util.Arrays;
import java.util.List;
import java.util.function.IntSupplier;

/** The ranges of all arguments: the last value inside and the first outside on each side, and values far outside. */
public final class ArgumentsTest {
    private interface Call {
        int on(EdgeJoin x, int[] a);
    }

    /** The document's words for an argument, and the least and the greatest value in a scene. */
    private record Range(String words, int low, int high) {
    }

    private record Method(String name, Call call, int[] inside, Range... ranges) {
    }

    private static final Range PIECE = new Range("`p`: number of the piece", 0, 4);
    private static final Range SIDE = new Range("`s`: the side, 0 to 3", 0, 3);
    private static final Range WIDTH = new Range("`w`: 1 to 8", 1, 8);
    private static final Range HEIGHT = new Range("`h`: 1 to 8; w * h is at most 8", 1, 8);
    private static final Range PLACE = new Range("`p`: the place", 0, 5);
    private static final Range TURN = new Range("0 to 3 quarters clockwise", 0, 3);

    public static void main(String[] args) {
        for (List<Method> methods : List.of(changes(), queries())) {
            for (Method method : methods) {
                checkRanges(method);
                checkCorners(method, new int[method.ranges().length], 0);
            }
        }
        Check.sentence("or names something that does not exist.", () -> {
            piecesThatExist();
            placesThatExist();
        });
        Check.sentence("or a place, 0 to w * h - 1", ArgumentsTest::placesOfJoins);
        Check.end("ArgumentsTest");
    }

    /** Five pieces, two of them on a table of three by two places. */
    private static EdgeJoin scene() {
        EdgeJoin x = Check.withCells(Check.plain(1), Check.plain(2), Check.rim("12", "00", "21", "00"), 0, -1);
        x.table(3, 2);
        x.puts(2, 1, 3);
        x.puts(5, 4, 0);
        return x;
    }

    private static List<Method> changes() {
        return List.of(
            new Method("turns", (x, a) -> x.turns(a[0], a[1]), new int[] {4, 3}, PIECE, TURN),
            new Method("drops", (x, a) -> x.drops(a[0]), new int[] {4}, PIECE),
            new Method("makes", (x, a) -> x.makes(a[0], a[1], a[2], a[3]), new int[] {7, 1, 1, 1},
                new Range("`seed`: 0 to 999999", 0, 999999), WIDTH, HEIGHT,
                new Range("`turned`: 1 if the pieces are turned, else 0", 0, 1)),
            new Method("table", (x, a) -> x.table(a[0], a[1]), new int[] {1, 1}, WIDTH, HEIGHT),
            new Method("puts", (x, a) -> x.puts(a[0], a[1], a[2]), new int[] {0, 0, 0}, PLACE,
                new Range("`k`: number of the piece", 0, 4),
                new Range("`t`: by how many quarters it is turned there, 0 to 3", 0, 3)),
            new Method("takes", (x, a) -> x.takes(a[0]), new int[] {2}, PLACE),
            new Method("type", (x, a) -> x.type(a[0]), new int[] {59}, new Range("`c`: the byte, 0 to 127", 0, 127)));
    }

    private static List<Method> queries() {
        return List.of(
            new Method("cell", (x, a) -> x.cell(a[0], a[1], a[2]), new int[] {4, 3, 3}, PIECE,
                new Range("`x`: the column, 0 to 3", 0, 3), new Range("`y`: the row, 0 to 3", 0, 3)),
            new Method("of", (x, a) -> x.of(a[0], a[1]), new int[] {4, 4}, PIECE, new Range("`what`: 0 to 4", 0, 4)),
            new Method("edge", (x, a) -> x.edge(a[0], a[1]), new int[] {4, 3}, PIECE, SIDE),
            new Method("unlike", (x, a) -> x.unlike(a[0], a[1], a[2], a[3]), new int[] {2, 3, 1, 3},
                new Range("`p`: number of a piece", 0, 4), new Range("`s`: a side of it", 0, 3),
                new Range("`q`: number of another piece", 0, 4), new Range("`t`: a side of that", 0, 3)),
            new Method("mate", (x, a) -> x.mate(a[0], a[1]), new int[] {4, 3}, PIECE, SIDE),
            new Method("pairs", (x, a) -> x.pairs(a[0]), new int[] {0},
                new Range("`i`: -1 for the number of pairs, or an index, from 0", -1, Integer.MAX_VALUE)),
            new Method("edges", (x, a) -> x.edges(a[0]), new int[] {0}, new Range("`what`: 0 or 1", 0, 1)),
            new Method("joins", (x, a) -> x.joins(a[0], a[1], a[2], a[3], a[4]), new int[] {5, 1, 0, 0, -1},
                WIDTH, new Range("`h`: 1 to 8", 1, 8), new Range("`turned`: 1 with turns, 0 without", 0, 1),
                new Range("`framed`: 1 with frame, 0 without", 0, 1),
                new Range("`p`: NONE for the cost, or a place, 0 to w * h - 1", -1, 4)),
            new Method("at", (x, a) -> x.at(a[0]), new int[] {5}, PLACE),
            new Method("next", (x, a) -> x.next(a[0], a[1]), new int[] {0, 0},
                new Range("`turned`: 1 if the piece may be turned, else 0", 0, 1), new Range("`what`: 0 to 2", 0, 2)),
            new Method("told", (x, a) -> x.told(a[0]), new int[] {0}, new Range("`what`: 0 to 7", 0, 7)));
    }

    private static void checkRanges(Method method) {
        for (int i = 0; i < method.ranges().length; i++) {
            int index = i;
            Check.sentence(method.name() + ", " + method.ranges()[i].words(), () -> checkRange(method, index));
        }
    }

    private static void checkRange(Method method, int index) {
        long low = method.ranges()[index].low();
        long high = method.ranges()[index].high();
        long[] values = {low - 2, low - 1, low, high, high + 1, high + 2, -100, low - 256, high + 256, low - 65536,
            high + 65536, 1 << 30, -(1 << 30), Integer.MIN_VALUE, Integer.MIN_VALUE + 1, Integer.MAX_VALUE - 1,
            Integer.MAX_VALUE};
        for (long value : values) {
            if (value == (int) value) {
                int[] a = method.inside().clone();
                a[index] = (int) value;
                checkCall(method, a, value >= low && value <= high);
            }
        }
    }

    private static void checkCall(Method method, int[] a, boolean inside) {
        EdgeJoin x = scene();
        String name = method.name() + Arrays.toString(a);
        if (inside) {
            method.call().on(x, a);
            Check.due("told(0) behind " + name, x.told(0), 0);
        } else {
            Check.refused(x, EdgeJoin.BAD, name, () -> method.call().on(x, a));
        }
    }

    /** All ways to have each argument at a bound of its range, beside it, or at the end of the ints. */
    private static void checkCorners(Method method, int[] a, int index) {
        if (index == a.length) {
            checkCorner(method, a);
            return;
        }
        Range range = method.ranges()[index];
        int[] values = {Integer.MIN_VALUE, range.low() - 1, range.low(), range.high(), range.high() + 1, Integer.MAX_VALUE};
        for (int value : values) {
            a[index] = value;
            checkCorners(method, a, index + 1);
        }
    }

    /** Inside, the arguments can still be wrong together, and the answer is then for other tests; but none may throw. */
    private static void checkCorner(Method method, int[] a) {
        boolean inside = true;
        for (int i = 0; i < a.length; i++) {
            inside &= a[i] >= method.ranges()[i].low() && a[i] <= method.ranges()[i].high();
        }
        EdgeJoin x = scene();
        String name = method.name() + Arrays.toString(a);
        int answer = method.call().on(x, a);
        if (!inside && !isPlaceOfJoins(method, a)) {
            Check.due(name, answer, EdgeJoin.BAD);
            Check.due("told(0) behind " + name, x.told(0), 1);
            Check.due("told(7) behind " + name, x.told(7), 6);
            Check.due("told(3) behind " + name, x.told(3), 0);
        }
    }

    /** Place 5 exists where a side is 8. */
    private static boolean isPlaceOfJoins(Method method, int[] a) {
        return method.name().equals("joins") && a[4] == 5 && (a[0] == 8 || a[1] == 8);
    }

    private static void isRightIf(boolean right, EdgeJoin x, String call, IntSupplier doCall) {
        if (right) {
            int wrong = x.told(0);
            doCall.getAsInt();
            Check.due("told(0) behind " + call, x.told(0), wrong);
        } else {
            Check.refused(x, EdgeJoin.BAD, call, doCall);
        }
    }

    private static void piecesThatExist() {
        for (int count = 0; count <= 8; count++) {
            for (int piece = -1; piece <= 9; piece++) {
                int p = piece;
                boolean right = p >= 0 && p < count;
                String call = " of piece " + p + ", where " + count + " are";
                EdgeJoin x = Check.withSame(count, Check.plain(1));
                isRightIf(right, x, "cell" + call, () -> x.cell(p, 0, 0));
                isRightIf(right, x, "of" + call, () -> x.of(p, 0));
                isRightIf(right, x, "edge" + call, () -> x.edge(p, 0));
                isRightIf(right, x, "mate" + call, () -> x.mate(p, 0));
                int other = p == 0 ? 1 : 0;
                isRightIf(right && count > 1, x, "unlike" + call, () -> x.unlike(p, 0, other, 0));
                isRightIf(right && count > 1, x, "unlike with q" + call, () -> x.unlike(other, 0, p, 0));
                isRightIf(false, x, "unlike with itself" + call, () -> x.unlike(p, 0, p, 1));
                isRightIf(right, x, "turns" + call, () -> x.turns(p, 0));
                isRightIf(right, x, "puts" + call, () -> x.puts(0, p, 0));
                isRightIf(right, x, "drops" + call, () -> x.drops(p));
            }
        }
    }

    private static void placesThatExist() {
        for (int[] size : Check.sizes()) {
            for (int place = -1; place <= 9; place++) {
                int p = place;
                boolean right = p >= 0 && p < size[0] * size[1];
                String call = " in place " + p + " of " + size[0] + " by " + size[1];
                EdgeJoin x = Check.withSame(2, Check.plain(1));
                x.table(size[0], size[1]);
                isRightIf(right, x, "at" + call, () -> x.at(p));
                isRightIf(right, x, "takes" + call, () -> x.takes(p));
                isRightIf(right, x, "puts" + call, () -> x.puts(p, 1, 0));
                isRightIf(right, x, "puts again" + call, () -> x.puts(p, 0, 0));
                isRightIf(right, x, "at again" + call, () -> x.at(p));
                isRightIf(right, x, "takes again" + call, () -> x.takes(p));
            }
        }
    }

    private static void placesOfJoins() {
        for (int w = 0; w <= 9; w++) {
            for (int h = 0; h <= 9; h++) {
                int[] size = {w, h};
                boolean fine = w >= 1 && w <= 8 && h >= 1 && h <= 8;
                EdgeJoin x = Check.withSame(2, Check.plain(1));
                for (int place : new int[] {-2, -1, 0, w * h - 1, w * h, 63, 64}) {
                    int p = place;
                    boolean right = fine && p >= -1 && p < w * h;
                    isRightIf(right, x, "joins(" + w + ", " + h + ", 0, 0, " + p + ")",
                        () -> x.joins(size[0], size[1], 0, 0, p));
                }
            }
        }
    }
}
