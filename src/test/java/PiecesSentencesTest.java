import java.util.Arrays;

/** The sentences of the section "Pieces", each with a test of its own. */
public final class PiecesSentencesTest {
    /** Each fits only itself read backwards, so that a link of two sides can have one of its own. */
    private static final String[] JOINTS = {"01", "02", "03", "12", "13", "23", "11", "22", "33"};
    /** The places in the text of a piece where the sides have their cells, clockwise. */
    private static final int[][] SIDE_CELLS = {{0, 1, 2, 3}, {3, 7, 11, 15}, {15, 14, 13, 12}, {12, 8, 4, 0}};

    public static void main(String[] args) {
        cells();
        edges();
        differences();
        mates();
        groups();
        Check.sentence("The sort of a piece is 0 (corner) if two neighboring sides of it are flat (3 and 0 are neighbors, "
            + "too); otherwise 1 (border) if a side is flat; otherwise 2 (inner).", PiecesSentencesTest::sorts);
        Check.end("PiecesSentencesTest");
    }

    private static void cells() {
        Check.sentence("There are at most 8 pieces, numbered from 0 as they come.", PiecesSentencesTest::atMostEight);
        Check.sentence("A piece has cells in the columns x = 0 to 3 and the rows y = 0 to 3 (row 0 at the top), each with "
            + "a color from 0 to 3.", PiecesSentencesTest::colors);
        Check.sentence("It is given as an int: the color of the cell (x, y) is in the bits 2 * (4 * y + x) (the lower bit "
            + "of the color) and 2 * (4 * y + x) + 1.", PiecesSentencesTest::bits);
    }

    private static void atMostEight() {
        EdgeJoin x = new EdgeJoin();
        for (int i = 0; i < 8; i++) {
            Check.due("piece " + i, x.piece(i), i);
        }
        for (int i = 0; i < 8; i++) {
            Check.due("the lower digit of piece " + i, x.cell(i, 0, 0), i % 4);
            Check.due("the higher digit of piece " + i, x.cell(i, 1, 0), i / 4);
        }
        Check.refused(x, EdgeJoin.FULL, "piece 8", () -> x.piece(8));
        Check.due("an order for piece 8", Check.read(x, "p0000000000000000;"), -1000);
        Check.due("drops(0)", x.drops(0), 7);
        Check.due("the eighth piece again", x.piece(9), 7);
        Check.refused(x, EdgeJoin.FULL, "the ninth piece again", () -> x.piece(9));
        EdgeJoin y = new EdgeJoin();
        Check.due("orders for eight pieces", Check.read(y, "p0000000000000000;".repeat(8)), 8);
        Check.due("told(4)", y.told(4), 8);
        Check.due("a ninth by an order", Check.read(y, "p0000000000000000;"), -1000);
        Check.due("makes of eight, where eight are", y.makes(1, 8, 1, 0), 8);
    }

    private static void colors() {
        for (int at = 0; at < 16; at++) {
            for (int color = 0; color < 4; color++) {
                EdgeJoin x = Check.withCells(Check.plain(3 - color) & ~(3 << 2 * at) | color << 2 * at);
                for (int i = 0; i < 16; i++) {
                    int want = i == at ? color : 3 - color;
                    Check.due("cell(0, " + i % 4 + ", " + i / 4 + ")", x.cell(0, i % 4, i / 4), want);
                }
            }
        }
    }

    private static void bits() {
        for (int bit = 0; bit < 32; bit++) {
            EdgeJoin x = Check.withCells(1 << bit);
            for (int i = 0; i < 16; i++) {
                int want = i != bit / 2 ? 0 : bit % 2 == 0 ? 1 : 2;
                Check.due("cell " + i + " of bit " + bit, x.cell(0, i % 4, i / 4), want);
            }
        }
    }

    private static void edges() {
        Check.sentence("for the top, the columns 0 to 3 of row 0;",
            () -> areEdges("1231 0000 0000 0000", 109, 64, 0, 1));
        Check.sentence("for the right side, the rows 0 to 3 of column 3;",
            () -> areEdges("0001 0002 0003 0001", 1, 109, 64, 0));
        Check.sentence("for the bottom, the columns 3 to 0 of row 3;",
            () -> areEdges("0000 0000 0000 1321", 0, 1, 109, 64));
        Check.sentence("for the left side, the rows 3 to 0 of column 0.",
            () -> areEdges("1000 3000 2000 1000", 64, 0, 1, 109));
        Check.sentence("A side is flat if all colors of its edge are 0.", PiecesSentencesTest::flatSides);
        Check.sentence("If a piece is turned by t quarters clockwise, its cells are moved so that what was side s becomes "
            + "side (s + t) modulo 4.", PiecesSentencesTest::turnedSides);
    }

    private static void areEdges(String piece, int... due) {
        EdgeJoin x = Check.withPieces(piece);
        for (int s = 0; s < 4; s++) {
            Check.due("edge(0, " + s + ") of " + piece, x.edge(0, s), due[s]);
        }
    }

    private static void flatSides() {
        Check.due("of(0, 1) with colors inside alone", Check.withPieces("0000 0330 0330 0000").of(0, 1), 15);
        for (int at = 0; at < 16; at++) {
            for (int color = 1; color < 4; color++) {
                int mask = 0;
                for (int s = 0; s < 4; s++) {
                    int cell = at;
                    mask |= Arrays.stream(SIDE_CELLS[s]).noneMatch(c -> c == cell) ? 1 << s : 0;
                }
                EdgeJoin x = Check.withCells(color << 2 * at);
                Check.due("of(0, 1) with color " + color + " in cell " + at, x.of(0, 1), mask);
            }
        }
    }

    private static void turnedSides() {
        int[] edges = {1 * 4, 2 * 4, 3 * 4, 1 * 16 + 2 * 4};
        for (int t = 0; t < 4; t++) {
            EdgeJoin x = Check.withCells(Check.rim("01", "02", "03", "12"));
            x.turns(0, t);
            for (int s = 0; s < 4; s++) {
                Check.due("what was side " + s + " turned by " + t, x.edge(0, (s + t) % 4), edges[s]);
            }
        }
        EdgeJoin x = Check.withPieces("0123 1230 2301 3012");
        for (int i = 1; i < 4; i++) {
            Check.holds("another piece after " + i + " quarters", x.turns(0, 1) != Check.cells("0123 1230 2301 3012"));
        }
        Check.due("the same piece after four quarters", x.turns(0, 1), Check.cells("0123 1230 2301 3012"));
    }

    private static void differences() {
        Check.sentence("The difference of a side of a piece and a side of another piece is the sum, for k = 0 to 3, of the "
            + "absolute differences of color k of the one edge and color 3 - k of the other edge.", () -> {
                facingColors();
                leastAndGreatest();
            });
    }

    private static int topWith(int k, int color) {
        return color << 2 * k;
    }

    private static void facingColors() {
        for (int k = 0; k < 4; k++) {
            for (int j = 0; j < 4; j++) {
                for (int a = 1; a < 4; a++) {
                    EdgeJoin x = Check.withCells(topWith(k, a), topWith(j, 2));
                    int want = j == 3 - k ? Math.abs(a - 2) : a + 2;
                    Check.due("unlike with " + a + " at " + k + ", 2 at " + j, x.unlike(0, 0, 1, 0), want);
                    Check.due("the same from the other side", x.unlike(1, 0, 0, 0), want);
                }
            }
        }
    }

    private static void leastAndGreatest() {
        EdgeJoin x = Check.withCells(0, -1, -1);
        for (int s = 0; s < 4; s++) {
            for (int t = 0; t < 4; t++) {
                Check.due("unlike of zeros and threes", x.unlike(0, s, 1, t), 12);
                Check.due("unlike of threes and zeros", x.unlike(1, s, 0, t), 12);
                Check.due("unlike of threes and threes", x.unlike(2, s, 1, t), 0);
            }
        }
    }

    private static void mates() {
        Check.sentence("The mate of a side that is not flat is, of all sides of other pieces that are not flat, the one "
            + "with the smallest difference;", PiecesSentencesTest::closestSide);
        Check.sentence("of all sides of other pieces", PiecesSentencesTest::notTheOwnSides);
        Check.sentence("that are not flat", PiecesSentencesTest::notTheFlatSides);
        Check.sentence("of several the one of the piece with the lowest number,", PiecesSentencesTest::lowestPiece);
        Check.sentence("of these the one with the lowest number of the side;", PiecesSentencesTest::lowestSide);
        Check.sentence("there is none if there are no such sides.", PiecesSentencesTest::noMate);
        Check.sentence("A pair consists of two sides each of which is the mate of the other one.",
            PiecesSentencesTest::mutualMates);
    }

    private static void closestSide() {
        // 12 fits 21; the sides of the others come closer from piece to piece.
        EdgeJoin x = Check.withCells(Check.rim("12", "00", "00", "00"));
        String[] others = {"03", "33", "23", "22", "21"};
        for (int i = 0; i < others.length; i++) {
            x.piece(Check.rim("00", "00", "00", others[i]));
            Check.due("mate(0, 0) with " + others[i], x.mate(0, 0), 4 * (i + 1) + 3);
        }
        x.piece(Check.rim("22", "33", "01", "32"));
        Check.due("mate(0, 0) with what is further off", x.mate(0, 0), 4 * 5 + 3);
        EdgeJoin y = Check.withSame(8, 0);
        y.drops(0);
        y.piece(Check.rim("00", "00", "00", "33"));
        y.drops(0);
        y.piece(Check.rim("11", "00", "00", "00"));
        Check.due("mate of the last piece", y.mate(7, 0), 4 * 6 + 3);
        Check.due("mate of the last piece but one", y.mate(6, 3), 4 * 7);
        y.drops(0);
        y.piece(Check.rim("00", "00", "00", "33"));
        Check.due("the last side of all", y.mate(5, 3), 4 * 7 + 3);
    }

    private static void notTheOwnSides() {
        EdgeJoin x = Check.withCells(Check.rim("12", "21", "12", "21"));
        Check.due("mate(0, 0) beside the own sides", x.mate(0, 0), EdgeJoin.NONE);
        x.piece(Check.rim("33", "00", "00", "00"));
        for (int s = 0; s < 4; s++) {
            Check.due("mate(0, " + s + ")", x.mate(0, s), 4);
        }
        Check.due("mate(1, 0)", x.mate(1, 0), 0);
    }

    private static void notTheFlatSides() {
        // 01 differs by 1 from a flat side, and by 5 from 33.
        EdgeJoin x = Check.withCells(Check.rim("01", "00", "00", "00"), 0, Check.rim("00", "00", "33", "00"));
        Check.due("unlike(0, 0, 1, 0)", x.unlike(0, 0, 1, 0), 1);
        Check.due("unlike(0, 0, 2, 2)", x.unlike(0, 0, 2, 2), 5);
        Check.due("mate(0, 0)", x.mate(0, 0), 4 * 2 + 2);
        Check.due("pairs(-1)", x.pairs(-1), 1);
        Check.refused(x, EdgeJoin.NO, "mate of a flat side", () -> x.mate(0, 1));
    }

    private static void lowestPiece() {
        for (int first = 0; first < 8; first++) {
            EdgeJoin x = new EdgeJoin();
            for (int k = 0; k < 8; k++) {
                x.piece(k < first ? Check.rim("00", "00", "00", "13") : Check.rim("00", "12", "21", "00"));
            }
            for (int k = 0; k < first; k++) {
                // 13 differs from 21 by 1, from 12 by 3, and from itself by 4.
                Check.due("mate(" + k + ", 3)", x.mate(k, 3), 4 * first + 2);
            }
            if (first < 7) {
                Check.due("mate(7, 1)", x.mate(7, 1), 4 * first + 2);
                Check.due("mate(" + first + ", 1)", x.mate(first, 1), 4 * (first + 1) + 2);
                Check.due("mate(" + first + ", 2)", x.mate(first, 2), 4 * (first + 1) + 1);
            }
        }
    }

    private static void lowestSide() {
        String[][] sides = {{"21", "21", "21", "21"}, {"22", "21", "21", "21"}, {"00", "20", "21", "21"},
            {"00", "11", "31", "21"}};
        for (int s = 0; s < 4; s++) {
            String[] q = sides[s];
            EdgeJoin x = Check.withCells(Check.rim("12", "00", "00", "00"), Check.rim(q[0], q[1], q[2], q[3]));
            Check.due("mate(0, 0), where side " + s + " is the first that fits", x.mate(0, 0), 4 + s);
        }
    }

    private static void noMate() {
        EdgeJoin x = Check.withCells(-1);
        for (int count = 1; count <= 8; count++) {
            for (int s = 0; s < 4; s++) {
                int side = s;
                Check.query(x, "mate(0, " + s + ") of " + count, () -> x.mate(0, side), EdgeJoin.NONE);
            }
            Check.due("pairs(-1) of " + count, x.pairs(-1), 0);
            x.piece(0);
        }
        x.drops(7);
        x.piece(Check.rim("00", "00", "00", "01"));
        Check.due("mate(0, 0) with one such side", x.mate(0, 0), 4 * 7 + 3);
    }

    private static void mutualMates() {
        // 22 is the mate of 11 and of 33, which come next to it, but has one mate itself.
        EdgeJoin x = Check.withCells(Check.rim("11", "00", "00", "00"), Check.rim("00", "22", "00", "00"),
            Check.rim("00", "00", "00", "33"));
        Check.due("mate(0, 0)", x.mate(0, 0), 4 + 1);
        Check.due("mate(1, 1)", x.mate(1, 1), 0);
        Check.due("mate(2, 3)", x.mate(2, 3), 4 + 1);
        Check.due("pairs(-1)", x.pairs(-1), 1);
        Check.due("pairs(0)", x.pairs(0), 32 * 0 + 5);
        Check.due("pairs(1)", x.pairs(1), -5);
        EdgeJoin y = linked(8, new int[][] {{0, 7}});
        Check.due("a pair of the first piece and the last", y.pairs(0), 32 * 0 + 28);
    }

    private static void groups() {
        Check.sentence("Two pieces are in the same group if they are connected by pairs, directly or by way of other "
            + "pieces;", PiecesSentencesTest::connected);
        Check.sentence("each piece is in exactly one group.", PiecesSentencesTest::oneGroupEach);
    }

    /** Pieces that are connected by the links alone: the sides of each link fit each other, and nothing else fits them. */
    private static EdgeJoin linked(int count, int[][] links) {
        String[][] sides = new String[count][4];
        for (String[] piece : sides) {
            Arrays.fill(piece, "00");
        }
        int[] next = new int[count];
        for (int i = 0; i < links.length; i++) {
            int a = links[i][0];
            int b = links[i][1];
            sides[a][next[a]++] = JOINTS[i];
            sides[b][next[b]++] = new StringBuilder(JOINTS[i]).reverse().toString();
        }
        EdgeJoin x = new EdgeJoin();
        for (String[] piece : sides) {
            x.piece(Check.rim(piece[0], piece[1], piece[2], piece[3]));
        }
        Check.due("pairs(-1) of " + Arrays.deepToString(links), x.pairs(-1), links.length);
        return x;
    }

    private static void areGroups(int[][] links, int... lowest) {
        EdgeJoin x = linked(lowest.length, links);
        int due = 0;
        for (int p = 0; p < lowest.length; p++) {
            Check.due("of(" + p + ", 2) of " + Arrays.deepToString(links), x.of(p, 2), lowest[p]);
            due += lowest[p] == p ? 1 : 0;
        }
        Check.due("groups() of " + Arrays.deepToString(links), x.groups(), due);
    }

    private static void connected() {
        areGroups(new int[][] {{0, 1}, {1, 2}, {2, 3}, {3, 4}, {4, 5}, {5, 6}, {6, 7}}, 0, 0, 0, 0, 0, 0, 0, 0);
        areGroups(new int[][] {{6, 7}, {5, 6}, {4, 5}, {3, 4}, {2, 3}, {1, 2}, {0, 1}}, 0, 0, 0, 0, 0, 0, 0, 0);
        areGroups(new int[][] {{0, 7}, {7, 1}, {1, 6}, {6, 2}, {2, 5}, {5, 3}, {3, 4}}, 0, 0, 0, 0, 0, 0, 0, 0);
        areGroups(new int[][] {{4, 5}, {6, 7}, {2, 3}, {0, 1}, {5, 6}, {1, 2}, {3, 7}}, 0, 0, 0, 0, 0, 0, 0, 0);
        areGroups(new int[][] {{0, 2}, {2, 4}, {4, 6}, {1, 3}, {3, 5}, {5, 7}}, 0, 1, 0, 1, 0, 1, 0, 1);
        areGroups(new int[][] {{0, 5}, {1, 6}, {5, 6}}, 0, 0, 2, 3, 4, 0, 0, 7);
        areGroups(new int[][] {{7, 3}, {7, 5}, {7, 6}, {7, 4}}, 0, 1, 2, 3, 3, 3, 3, 3);
        areGroups(new int[][] {{0, 1}, {1, 2}, {2, 0}}, 0, 0, 0, 3);
        areGroups(new int[][] {{0, 1}, {0, 1}, {0, 1}, {0, 1}}, 0, 0);
    }

    private static void oneGroupEach() {
        areGroups(new int[][] {}, 0, 1, 2, 3, 4, 5, 6, 7);
        areGroups(new int[][] {}, 0);
        areGroups(new int[][] {{1, 7}}, 0, 1, 2, 3, 4, 5, 6, 1);
        areGroups(new int[][] {{0, 4}, {1, 5}, {2, 6}, {3, 7}}, 0, 1, 2, 3, 0, 1, 2, 3);
    }

    private static void sorts() {
        int[] due = {2, 1, 1, 0, 1, 1, 0, 0, 1, 0, 1, 0, 0, 0, 0, 0};
        for (int mask = 0; mask < 16; mask++) {
            String[] sides = new String[4];
            for (int s = 0; s < 4; s++) {
                sides[s] = (mask >> s & 1) == 1 ? "00" : "10";
            }
            EdgeJoin x = Check.withCells(Check.rim(sides[0], sides[1], sides[2], sides[3]));
            Check.due("of(0, 1) of mask " + mask, x.of(0, 1), mask);
            Check.due("of(0, 0) of mask " + mask, x.of(0, 0), due[mask]);
        }
    }
}
