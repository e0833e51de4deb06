import java.util.Arrays;

/** The sentences of the section "Rectangles", each with a test of its own. */
public final class RectanglesSentencesTest {
    private static final String[][] SIDES = {{"01", "02", "03", "11"}, {"12", "13", "22", "23"}};

    public static void main(String[] args) {
        costs();
        arrangements();
        best();
        tables();
        Check.end("RectanglesSentencesTest");
    }

    private static void costs() {
        Check.sentence("In a rectangle of w by h places, place p is in column p modulo w and row p / w (integer division).",
            RectanglesSentencesTest::columnsAndRows);
        Check.sentence("Its cost, if pieces, perhaps turned, are in some places, is the sum of the differences of the sides "
            + "that touch,", RectanglesSentencesTest::touchingSides);
        Check.sentence("over all pairs of pieces next to each other (right and left, or bottom and top).",
            RectanglesSentencesTest::allPairs);
    }

    private static EdgeJoin withTable(int w, int h, int... pieces) {
        EdgeJoin x = Check.withCells(pieces);
        Check.due("table(" + w + ", " + h + ")", x.table(w, h), 0);
        return x;
    }

    private static boolean areNeighbors(int w, int p, int q) {
        return Math.abs(p % w - q % w) + Math.abs(p / w - q / w) == 1;
    }

    private static void columnsAndRows() {
        for (int[] size : Check.sizes()) {
            int w = size[0];
            for (int p = 0; p < w * size[1]; p++) {
                for (int q = 0; q < w * size[1]; q++) {
                    if (p != q) {
                        String where = " of " + w + " by " + size[1] + " with one in place " + p;
                        EdgeJoin x = withTable(w, size[1], Check.plain(1), Check.plain(3));
                        Check.due("puts(" + p + ", 0, 0)", x.puts(p, 0, 0), 0);
                        int want = areNeighbors(w, p, q) ? 8 : 0;
                        Check.due("puts(" + q + ", 1, 0)" + where, x.puts(q, 1, 0), want);
                        Check.due("cost() behind puts(" + q + ", 1, 0)" + where, x.cost(), want);
                    }
                }
            }
        }
    }

    /** The difference of the sides that touch if piece 1 lies beside piece 0 in the direction d. */
    private static int touching(int d, int t, int u) {
        String a = SIDES[0][(d - t + 4) % 4];
        String b = SIDES[1][(d + 2 - u + 4) % 4];
        return Math.abs(a.charAt(0) - b.charAt(1)) + Math.abs(a.charAt(1) - b.charAt(0));
    }

    private static void touchingSides() {
        int[] from = {4, 3, 1, 2};
        int[] to = {1, 4, 4, 1};
        for (int d = 0; d < 4; d++) {
            for (int t = 0; t < 4; t++) {
                for (int u = 0; u < 4; u++) {
                    String call = "piece 1 turned by " + u + " at side " + d + " of piece 0 turned by " + t;
                    EdgeJoin x = withTable(3, 2, rim(0), rim(1));
                    x.puts(from[d], 0, t);
                    Check.due(call, x.puts(to[d], 1, u), touching(d, t, u));
                    Check.due("cost() with " + call, x.cost(), touching(d, t, u));
                    Check.due("takes of piece 0", x.takes(from[d]), 0);
                    Check.due(call + ", the other way round", x.puts(from[d], 0, t), touching(d, t, u));
                }
            }
        }
    }

    private static int rim(int piece) {
        return Check.rim(SIDES[piece][0], SIDES[piece][1], SIDES[piece][2], SIDES[piece][3]);
    }

    private static void allPairs() {
        int z = 0;
        int m = -1;
        isFull(withTable(4, 2, z, m, z, m, m, z, m, z), 0, 12, 12, 12, 12, 24, 24, 24);
        isFull(withTable(2, 4, z, m, m, z, z, m, m, z), 0, 12, 12, 24, 12, 24, 12, 24);
        isFull(withTable(8, 1, z, m, z, m, z, m, z, m), 0, 12, 12, 12, 12, 12, 12, 12);
        isFull(withTable(1, 8, z, m, z, m, z, m, z, m), 0, 12, 12, 12, 12, 12, 12, 12);
        isFull(withTable(3, 2, z, m, z, m, z, m), 0, 12, 12, 12, 24, 24);
        isFull(withTable(1, 1, m), 0);
        EdgeJoin x = withTable(3, 1, z, m, z);
        x.puts(0, 0, 0);
        x.puts(2, 2, 0);
        Check.due("cost() with a gap", x.cost(), 0);
        Check.due("puts in the gap", x.puts(1, 1, 0), 24);
        Check.due("cost() without the gap", x.cost(), 24);
        x.takes(0);
        Check.due("cost() with less", x.cost(), 12);
    }

    private static void isFull(EdgeJoin x, int... increases) {
        int cost = 0;
        for (int p = 0; p < increases.length; p++) {
            Check.due("puts(" + p + ", " + p + ", 0)", x.puts(p, p, 0), increases[p]);
            cost += increases[p];
            Check.due("cost()", x.cost(), cost);
        }
    }

    private static void arrangements() {
        Check.sentence("The arrangements of w by h, where w * h is the number of all pieces, have each piece in one place,",
            RectanglesSentencesTest::eachPieceOnce);
        Check.sentence("each of them turned by any t (with turns), or all with t = 0 (without turns).",
            RectanglesSentencesTest::turnsOrNot);
        Check.sentence("With frame, only those arrangements are considered in which exactly those sides are flat that are "
            + "at the rim of the rectangle.", () -> {
                picturesFitTheirFrame();
                oneSideOff();
                framesOfOne();
                frameBeforeCost();
            });
    }

    private static void eachPieceOnce() {
        for (int[] size : Check.sizes()) {
            EdgeJoin x = new EdgeJoin();
            int count = x.makes(77, size[0], size[1], 1);
            int seen = 0;
            for (int p = 0; p < count; p++) {
                int content = x.joins(size[0], size[1], 0, 0, p);
                Check.due("t without turns", content % 4, 0);
                seen |= 1 << content / 4;
            }
            Check.due("the pieces of an arrangement of " + size[0] + " by " + size[1], seen, (1 << count) - 1);
        }
    }

    private static void areContents(EdgeJoin x, int[] how, int cost, int... contents) {
        String call = "joins" + Arrays.toString(how) + " at ";
        Check.due(call + "-1", x.joins(how[0], how[1], how[2], how[3], EdgeJoin.NONE), cost);
        for (int p = 0; p < how[0] * how[1]; p++) {
            int want = cost == -5 ? -5 : contents[p];
            Check.due(call + p, x.joins(how[0], how[1], how[2], how[3], p), want);
        }
    }

    private static void turnsOrNot() {
        // Side 3 of piece 0 alone fits piece 1: turned by 2 it is at the right.
        EdgeJoin x = Check.withCells(Check.rim("11", "11", "11", "33"), Check.rim("33", "33", "22", "22"));
        areContents(x, new int[] {2, 1, 0, 0}, 0, 4, 0);
        areContents(x, new int[] {2, 1, 1, 0}, 0, 2, 4 + 2);
        areContents(x, new int[] {1, 2, 0, 0}, 2, 4, 0);
        areContents(x, new int[] {1, 2, 1, 0}, 0, 3, 4);
        for (int t = 0; t < 4; t++) {
            EdgeJoin y = Check.withCells(Check.rim("13", "00", "00", "00"), Check.rim("00", "00", "00", "31"));
            y.turns(0, t);
            areContents(y, new int[] {2, 1, 1, 1}, 0, (5 - t) % 4, 4);
        }
    }

    private static void picturesFitTheirFrame() {
        for (int[] size : Check.sizes()) {
            int w = size[0];
            int h = size[1];
            for (int turned = 0; turned <= 1; turned++) {
                EdgeJoin x = new EdgeJoin();
                int count = x.makes(4711, w, h, turned);
                if (turned == 0 || count <= 4) {
                    Check.due("a picture of " + w + " by " + h, x.joins(w, h, turned, 1, EdgeJoin.NONE), 0);
                }
                if (turned == 0 && w != h) {
                    Check.due("a picture of " + w + " by " + h + " the other way", x.joins(h, w, 0, 1, 0), -5);
                }
            }
        }
    }

    /** The pieces of a rectangle whose rim alone is flat, but for one side of one place. */
    private static EdgeJoin framedBut(int w, int h, int wrongPlace, int wrongSide) {
        EdgeJoin x = new EdgeJoin();
        for (int p = 0; p < w * h; p++) {
            boolean[] rim = {p / w == 0, p % w == w - 1, p / w == h - 1, p % w == 0};
            String[] sides = new String[4];
            for (int s = 0; s < 4; s++) {
                boolean flat = rim[s] ^ (p == wrongPlace && s == wrongSide);
                sides[s] = flat ? "00" : "11";
            }
            x.piece(Check.rim(sides[0], sides[1], sides[2], sides[3]));
        }
        return x;
    }

    private static void oneSideOff() {
        for (int[] size : Check.sizes()) {
            int w = size[0];
            int h = size[1];
            Check.due("the frame of " + w + " by " + h, framedBut(w, h, -1, -1).joins(w, h, 0, 1, EdgeJoin.NONE), 0);
            for (int side = 0; side < 4 * w * h; side++) {
                EdgeJoin x = framedBut(w, h, side / 4, side % 4);
                String what = "the frame of " + w + " by " + h + " without side " + side;
                Check.due(what, x.joins(w, h, 0, 1, EdgeJoin.NONE), -5);
                Check.due(what + ", place 0", x.joins(w, h, 0, 1, 0), -5);
                if (w * h <= 4) {
                    Check.due(what + ", with turns", x.joins(w, h, 1, 1, EdgeJoin.NONE), -5);
                }
                Check.holds(what + ", without frame", x.joins(w, h, 0, 0, EdgeJoin.NONE) >= 0);
            }
        }
    }

    private static void framesOfOne() {
        for (int mask = 0; mask < 16; mask++) {
            String[] sides = new String[4];
            for (int s = 0; s < 4; s++) {
                sides[s] = (mask >> s & 1) == 1 ? "00" : "02";
            }
            EdgeJoin x = Check.withCells(Check.rim(sides[0], sides[1], sides[2], sides[3]));
            Check.due("one piece of mask " + mask + " in a frame", x.joins(1, 1, 0, 1, EdgeJoin.NONE), mask == 15 ? 0 : -5);
            Check.due("one piece of mask " + mask + " turned", x.joins(1, 1, 1, 1, 0), mask == 15 ? 0 : -5);
            Check.due("one piece of mask " + mask + " without frame", x.joins(1, 1, 1, 0, EdgeJoin.NONE), 0);
        }
    }

    /** What costs least without a frame does not fit in it, and what fits costs more. */
    private static void frameBeforeCost() {
        EdgeJoin x = Check.withCells(Check.rim("00", "00", "00", "11"), Check.rim("00", "33", "00", "00"));
        areContents(x, new int[] {2, 1, 0, 0}, 0, 0, 4);
        areContents(x, new int[] {2, 1, 0, 1}, 4, 4, 0);
        areContents(x, new int[] {2, 1, 1, 1}, 4, 2, 4 + 2);
        areContents(x, new int[] {1, 2, 0, 1}, -5);
        areContents(x, new int[] {1, 2, 1, 1}, 4, 3, 4 + 3);
    }

    private static void best() {
        Check.sentence("The best arrangement is the one with the smallest cost;", RectanglesSentencesTest::smallestCost);
        Check.sentence("of several the one that is lexicographically first by the piece and then t in place 0,",
            RectanglesSentencesTest::firstInPlaceZero);
        Check.sentence("the piece and t in place 1, and so on.", RectanglesSentencesTest::firstInLaterPlaces);
    }

    private static void smallestCost() {
        // A row of colors costs least in their order; the last arrangement of all is the reverse of the first.
        int[] colors = {2, 0, 3, 1};
        EdgeJoin x = new EdgeJoin();
        for (int color : colors) {
            x.piece(Check.plain(color));
        }
        areContents(x, new int[] {4, 1, 0, 0}, 12, 4, 12, 0, 8);
        EdgeJoin y = Check.withCells(Check.rim("00", "00", "00", "21"), Check.rim("00", "23", "00", "11"),
            Check.rim("00", "12", "00", "11"));
        // 2 and then 0 fit; 1 costs 2 behind them, 3 before them and 3 between them.
        areContents(y, new int[] {3, 1, 0, 0}, 2, 8, 0, 4);
        EdgeJoin last = Check.withCells(Check.rim("00", "00", "00", "12"), Check.rim("00", "21", "00", "13"),
            Check.rim("00", "31", "00", "00"));
        areContents(last, new int[] {3, 1, 0, 1}, 0, 8, 4, 0);
    }

    private static void firstInPlaceZero() {
        for (int count = 1; count <= 8; count++) {
            int[] own = new int[count];
            for (int p = 0; p < count; p++) {
                own[p] = 4 * p;
            }
            areContents(Check.withSame(count, Check.plain(2)), new int[] {count, 1, 0, 0}, 0, own);
            if (count <= 4) {
                areContents(Check.withSame(count, Check.plain(2)), new int[] {1, count, 1, 0}, 0, own);
            }
        }
        // Turned by 1 or by 3 the first piece fits; the second would fit in front of it as it is.
        EdgeJoin x = Check.withCells(Check.rim("33", "11", "33", "11"), Check.rim("33", "33", "33", "33"));
        areContents(x, new int[] {2, 1, 1, 0}, 0, 1, 4);
        EdgeJoin y = Check.withCells(Check.rim("11", "11", "11", "33"), Check.rim("33", "33", "33", "33"));
        areContents(y, new int[] {2, 1, 1, 0}, 0, 2, 4);
    }

    private static void firstInLaterPlaces() {
        // Piece 0 as it is needs 2 and then 1 behind it; turned by 1 it needs 1 and then 2, and fits as well.
        EdgeJoin x = Check.withCells(Check.rim("13", "12", "00", "00"), Check.rim("31", "00", "22", "20"),
            Check.rim("00", "02", "22", "21"));
        areContents(x, new int[] {3, 1, 1, 0}, 0, 0, 8, 4);
        x.turns(0, 1);
        areContents(x, new int[] {3, 1, 1, 0}, 0, 0, 4 + 3, 8 + 1);
        // Pieces 1 and 2 are the same, and turned by 0 or 2 as well as each other.
        EdgeJoin y = Check.withCells(Check.plain(3), Check.rim("33", "00", "33", "00"), Check.rim("33", "00", "33", "00"));
        areContents(y, new int[] {1, 3, 0, 0}, 6, 0, 4, 8);
        EdgeJoin z = Check.withCells(Check.rim("33", "33", "33", "33"), Check.rim("33", "00", "33", "00"),
            Check.rim("33", "00", "33", "00"));
        areContents(z, new int[] {1, 3, 1, 0}, 0, 0, 4, 8);
        areContents(z, new int[] {3, 1, 1, 0}, 0, 0, 4 + 1, 8 + 1);
    }

    private static void tables() {
        Check.sentence("The table is a rectangle of w by h places (w and h are 1 to 8, w * h is at most 8),",
            RectanglesSentencesTest::tableSizes);
        Check.sentence("4 by 2 at first.", () -> areSize(new EdgeJoin(), 4, 2));
        Check.sentence("Each place is empty, as all are at first, or has a piece, turned by some t;",
            RectanglesSentencesTest::placesOfTable);
        Check.sentence("each piece is in at most one place.", RectanglesSentencesTest::onePlaceAtMost);
    }

    private static void areSize(EdgeJoin x, int w, int h) {
        Check.due("told(5)", x.told(5), w);
        Check.due("told(6)", x.told(6), h);
        for (int p = 0; p < w * h; p++) {
            Check.due("at(" + p + ") of " + w + " by " + h, x.at(p), EdgeJoin.NONE);
        }
        Check.refused(x, EdgeJoin.BAD, "at(" + w * h + ") of " + w + " by " + h, () -> x.at(w * h));
    }

    private static void tableSizes() {
        for (int w = -1; w <= 10; w++) {
            for (int h = -1; h <= 10; h++) {
                if (w >= 1 && h >= 1 && w * h <= 8) {
                    areSize(withTable(w, h), w, h);
                    EdgeJoin x = new EdgeJoin();
                    Check.due("makes", x.makes(0, w, h, 0), w * h);
                    areSize(x, w, h);
                } else {
                    refusedSize(w, h);
                }
            }
        }
    }

    private static void refusedSize(int w, int h) {
        EdgeJoin x = new EdgeJoin();
        Check.refused(x, EdgeJoin.BAD, "table(" + w + ", " + h + ")", () -> x.table(w, h));
        Check.refused(x, EdgeJoin.BAD, "makes(0, " + w + ", " + h + ", 0)", () -> x.makes(0, w, h, 0));
        if (w >= 0 && h >= 0) {
            Check.due("the order t" + w + " " + h, Check.read(x, "t" + w + " " + h + ";"), -1000);
            Check.due("the order m0 " + w + " " + h, Check.read(x, "m0 " + w + " " + h + " 0;"), -1000);
        }
        x.clear();
        areSize(x, 4, 2);
    }

    private static void placesOfTable() {
        for (int[] size : Check.sizes()) {
            for (int p = 0; p < size[0] * size[1]; p++) {
                for (int t = 0; t < 4; t++) {
                    EdgeJoin x = withTable(size[0], size[1], 1, 2, 3, 4, 5, 6, 7, 8);
                    int k = (p + t + size[0]) % 8;
                    Check.due("puts(" + p + ", " + k + ", " + t + ")", x.puts(p, k, t), 0);
                    for (int q = 0; q < size[0] * size[1]; q++) {
                        Check.due("at(" + q + ")", x.at(q), q == p ? 4 * k + t : EdgeJoin.NONE);
                    }
                    Check.due("of(" + k + ", 3)", x.of(k, 3), p);
                    Check.due("of(" + k + ", 4)", x.of(k, 4), t);
                    Check.due("takes(" + p + ")", x.takes(p), k);
                    Check.due("at(" + p + ") then", x.at(p), EdgeJoin.NONE);
                    Check.due("of(" + k + ", 3) then", x.of(k, 3), EdgeJoin.NONE);
                    Check.due("of(" + k + ", 4) then", x.of(k, 4), EdgeJoin.NONE);
                }
            }
        }
    }

    private static void onePlaceAtMost() {
        EdgeJoin x = withTable(4, 2, 1, 2, 3, 4, 5, 6, 7, 8);
        for (int k = 0; k < 7; k++) {
            int piece = k;
            x.puts(k, k, k % 4);
            Check.refused(x, EdgeJoin.NO, "puts of piece " + k + " once more", () -> x.puts(7, piece, 0));
            Check.refused(x, EdgeJoin.NO, "puts of piece " + k + " where it is", () -> x.puts(piece, piece, piece % 4));
        }
        x.takes(3);
        Check.holds("puts of piece 3 elsewhere", x.puts(7, 3, 1) >= 0);
        Check.due("at(7)", x.at(7), 13);
        Check.refused(x, EdgeJoin.NO, "puts of piece 3 where it was", () -> x.puts(3, 3, 3));
    }
}
