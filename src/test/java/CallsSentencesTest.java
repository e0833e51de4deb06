import java.math.BigInteger;
import java.util.HashSet;
import java.util.Set;

/** The sentences of the promises that name a boundary and stand in no section before them, each with a test of its own. */
public final class CallsSentencesTest {
    private static final int NONE = EdgeJoin.NONE;

    public static void main(String[] args) {
        pieces();
        pictures();
        sides();
        joins();
        table();
        nextPiece();
        texts();
        numbers();
        Check.end("CallsSentencesTest");
    }

    private static void pieces() {
        Check.sentence("Creates an object without pieces, with an empty table of 4 by 2 places and an empty text; nothing "
            + "can be undone, and nothing has been counted.", CallsSentencesTest::newObject);
        Check.sentence("Returns the number of the piece; FULL if there are 8 pieces.", CallsSentencesTest::numberOfPiece);
        Check.sentence("(On the table it stays with its t.)", CallsSentencesTest::staysWithItsTurn);
        Check.sentence("Removes a piece, also from the table. The numbers of the pieces behind it decrease by 1.",
            CallsSentencesTest::dropsAnyOfAny);
    }

    private static void newObject() {
        EdgeJoin x = new EdgeJoin();
        int[] due = {0, 0, 0, 0, 0, 4, 2, 0};
        for (int what = 0; what < 8; what++) {
            Check.due("told(" + what + ")", x.told(what), due[what]);
        }
        for (int p = 0; p < 8; p++) {
            Check.due("at(" + p + ")", x.at(p), NONE);
        }
        Check.due("cost()", x.cost(), 0);
        Check.due("next(1, 0)", x.next(1, 0), NONE);
        Check.due("pairs(-1)", x.pairs(-1), 0);
        Check.due("pairs(0)", x.pairs(0), -5);
        Check.due("groups()", x.groups(), 0);
        Check.due("edges(0)", x.edges(0), 0);
        Check.due("edges(1)", x.edges(1), 0);
        Check.due("clear()", x.clear(), 0);
        Check.due("reads()", x.reads(), -10);
        Check.refused(x, EdgeJoin.NO, "back()", x::back);
        Check.refused(x, EdgeJoin.NO, "takes(7)", () -> x.takes(7));
        Check.refused(x, EdgeJoin.BAD, "at(8)", () -> x.at(8));
        Check.refused(x, EdgeJoin.BAD, "drops(0)", () -> x.drops(0));
    }

    private static void numberOfPiece() {
        for (int count = 0; count <= 7; count++) {
            EdgeJoin x = Check.withSame(count, 5);
            Check.due("piece behind " + count, x.piece(6), count);
            Check.due("told(4)", x.told(4), count + 1);
        }
        EdgeJoin x = Check.withSame(8, 5);
        Check.refused(x, EdgeJoin.FULL, "piece behind 8", () -> x.piece(6));
        EdgeJoin y = new EdgeJoin();
        y.makes(1, 2, 4, 0);
        Check.refused(y, EdgeJoin.FULL, "piece behind a picture of 8", () -> y.piece(6));
    }

    private static void staysWithItsTurn() {
        for (int t = 0; t < 4; t++) {
            for (int u = 0; u < 4; u++) {
                EdgeJoin x = Check.withCells(Check.rim("01", "02", "03", "12"), 0);
                x.puts(5, 0, t);
                x.puts(1, 1, 0);
                x.turns(0, u);
                Check.due("at(5) after turns by " + u, x.at(5), t);
                Check.due("at(1) after turns by " + u, x.at(1), 4);
                // What looks up at the zeros above has been turned by both.
                int[] sums = {1, 2, 3, 3};
                Check.due("cost() after turns by " + u, x.cost(), sums[(8 - t - u) % 4]);
            }
        }
    }

    private static void dropsAnyOfAny() {
        for (int count = 1; count <= 8; count++) {
            for (int gone = 0; gone < count; gone++) {
                EdgeJoin x = new EdgeJoin();
                for (int p = 0; p < count; p++) {
                    x.piece(1000 + p);
                    x.puts(7 - p, p, p % 4);
                }
                Check.due("drops(" + gone + ") of " + count, x.drops(gone), count - 1);
                Check.due("told(4)", x.told(4), count - 1);
                Check.due("at() where it was", x.at(7 - gone), NONE);
                for (int p = 0; p < count; p++) {
                    if (p != gone) {
                        int q = p < gone ? p : p - 1;
                        Check.due("the place of piece " + p, x.at(7 - p), 4 * q + p % 4);
                        Check.due("the cells of piece " + p, x.turns(q, 0), 1000 + p);
                    }
                }
                Check.refused(x, EdgeJoin.BAD, "the last number", () -> x.drops(x.told(4)));
            }
        }
    }

    private static void pictures() {
        Check.sentence("There is a number s, which is the seed at first; a step makes it (1103515245 * s + 12345) modulo "
            + "2147483648, and r is then s / 65536 (integer division).", CallsSentencesTest::firstPoints);
        Check.sentence("For each point that is not at its rim, row by row, a step is done, and its color is r modulo 3, "
            + "plus 1; the points at the rim have the color 0.", CallsSentencesTest::colorsOfPictures);
        Check.sentence("For each place p of a rectangle of w by h, in column a and row b of it, the piece p has in its cell "
            + "(x, y) the color of the point in column 3 * a + x and row 3 * b + y. Then, for i from w * h - 1 down to 1, a "
            + "step is done, and the pieces i and r modulo (i + 1) are exchanged.", () -> arePictures(0));
        Check.sentence("If turned is 1, then for each piece from 0 on a step is done, and the piece is turned by r modulo 4.",
            () -> arePictures(1));
        Check.sentence("The table becomes an empty one of w by h places.", CallsSentencesTest::tableOfPicture);
    }

    private static void firstPoints() {
        for (int seed : new int[] {0, 1, 2, 65535, 65536, 500000, 999998, 999999}) {
            EdgeJoin x = new EdgeJoin();
            Check.due("makes(" + seed + ", 1, 1, 0)", x.makes(seed, 1, 1, 0), 1);
            BigInteger s = BigInteger.valueOf(seed);
            for (int i : new int[] {5, 6, 9, 10}) {
                s = s.multiply(BigInteger.valueOf(1103515245)).add(BigInteger.valueOf(12345)).mod(
                    BigInteger.ONE.shiftLeft(31));
                int r = s.shiftRight(16).intValue();
                Check.due("cell " + i + " of seed " + seed, x.cell(0, i % 4, i / 4), r % 3 + 1);
            }
        }
    }

    private static void colorsOfPictures() {
        for (int[] size : Check.sizes()) {
            EdgeJoin x = new EdgeJoin();
            x.makes(12, size[0], size[1], 1);
            int flat = 0;
            Set<Integer> inner = new HashSet<>();
            for (int p = 0; p < size[0] * size[1]; p++) {
                flat += Integer.bitCount(x.of(p, 1));
                for (int i : new int[] {5, 6, 9, 10}) {
                    inner.add(x.cell(p, i % 4, i / 4));
                }
            }
            Check.due("flat sides of " + size[0] + " by " + size[1], flat, 2 * (size[0] + size[1]));
            Check.holds("inside are the colors 1 to 3 alone: " + inner, !inner.contains(0));
        }
    }

    private static void arePictures(int turned) {
        for (int seed = 0; seed < 1000000; seed += 33333) {
            for (int[] size : Check.sizes()) {
                EdgeJoin x = new EdgeJoin();
                SlowModel y = new SlowModel();
                String call = "makes(" + seed + ", " + size[0] + ", " + size[1] + ", " + turned + ")";
                Check.due(call, x.makes(seed, size[0], size[1], turned), y.makes(seed, size[0], size[1], turned));
                for (int i = 0; i < 16 * size[0] * size[1]; i++) {
                    int want = y.cell(i / 16, i % 4, i / 4 % 4);
                    Check.due("cell " + i + " after " + call, x.cell(i / 16, i % 4, i / 4 % 4), want);
                }
            }
        }
    }

    private static void tableOfPicture() {
        for (int[] size : Check.sizes()) {
            EdgeJoin x = Check.withSame(8, 1);
            x.table(2, 4);
            for (int p = 0; p < 8; p++) {
                x.puts(p, 7 - p, 1);
            }
            Check.due("makes", x.makes(3, size[0], size[1], 1), size[0] * size[1]);
            Check.due("told(4)", x.told(4), size[0] * size[1]);
            Check.due("told(5)", x.told(5), size[0]);
            Check.due("told(6)", x.told(6), size[1]);
            for (int p = 0; p < size[0] * size[1]; p++) {
                Check.due("at(" + p + ")", x.at(p), NONE);
                Check.due("of(" + p + ", 3)", x.of(p, 3), NONE);
            }
        }
    }

    private static void sides() {
        Check.sentence("Returns the four colors as the digits of a number to the base 4, the first one as the highest digit;",
            CallsSentencesTest::leastAndGreatestEdge);
        Check.sentence("Returns the difference; BAD, also if p equals q.", CallsSentencesTest::itself);
        Check.sentence("-1 for the number of pairs, or an index, from 0, in the list of all pairs, ascending by the lower "
            + "side of each", CallsSentencesTest::listOfPairs);
        Check.sentence("-5 if there is no such index; BAD if i is less than -1.", CallsSentencesTest::noSuchPair);
        Check.sentence("Counts the different edges of all sides of all pieces.", CallsSentencesTest::differentEdges);
        Check.sentence("1: also if they have the same colors when one of them is read in the opposite direction",
            CallsSentencesTest::edgesReadBackwards);
    }

    private static void leastAndGreatestEdge() {
        EdgeJoin x = Check.withCells(0, -1);
        for (int s = 0; s < 4; s++) {
            Check.due("the least edge", x.edge(0, s), 0);
            Check.due("the greatest edge", x.edge(1, s), 255);
        }
    }

    private static void itself() {
        EdgeJoin x = Check.withSame(8, Check.plain(1));
        for (int p = 0; p < 8; p++) {
            int piece = p;
            Check.refused(x, EdgeJoin.BAD, "unlike of " + p + " and itself", () -> x.unlike(piece, 0, piece, 0));
            Check.refused(x, EdgeJoin.BAD, "unlike of two sides of " + p, () -> x.unlike(piece, 1, piece, 3));
            Check.due("unlike of " + p + " and another", x.unlike(piece, 0, 7 - piece, 0), 0);
        }
    }

    /** Nine pairs, whose lower sides are on all four sides. */
    private static EdgeJoin withNinePairs() {
        return Check.withCells(Check.rim("01", "02", "03", "12"), Check.rim("13", "10", "00", "23"),
            Check.rim("31", "20", "11", "00"), Check.rim("30", "00", "21", "22"), Check.rim("32", "11", "33", "00"),
            Check.rim("00", "22", "00", "33"));
    }

    private static void listOfPairs() {
        EdgeJoin x = withNinePairs();
        // 01-10 02-20 03-30 12-21, 13-31 23-32, 11-11, 22-22, 33-33.
        int[][] due = {{0, 5}, {1, 9}, {2, 12}, {3, 14}, {4, 8}, {7, 16}, {10, 17}, {15, 21}, {18, 23}};
        Check.query(x, "pairs(-1)", () -> x.pairs(-1), due.length);
        for (int i = 0; i < due.length; i++) {
            int index = i;
            Check.query(x, "pairs(" + i + ")", () -> x.pairs(index), 32 * due[index][0] + due[index][1]);
        }
        EdgeJoin y = Check.withSame(8, 0);
        y.drops(6);
        y.drops(6);
        y.piece(Check.rim("00", "00", "00", "11"));
        y.piece(Check.rim("00", "00", "00", "11"));
        Check.due("the last pair of all", y.pairs(0), 32 * 27 + 31);
    }

    private static void noSuchPair() {
        EdgeJoin x = withNinePairs();
        Check.query(x, "pairs(8)", () -> x.pairs(8), 32 * 18 + 23);
        Check.query(x, "pairs(9)", () -> x.pairs(9), -5);
        Check.query(x, "pairs(10)", () -> x.pairs(10), -5);
        Check.query(x, "pairs(MAX)", () -> x.pairs(Integer.MAX_VALUE), -5);
        Check.refused(x, EdgeJoin.BAD, "pairs(-2)", () -> x.pairs(-2));
        Check.refused(x, EdgeJoin.BAD, "pairs(-5)", () -> x.pairs(-5));
        Check.refused(x, EdgeJoin.BAD, "pairs(MIN)", () -> x.pairs(Integer.MIN_VALUE));
        EdgeJoin none = Check.withSame(8, 0);
        Check.query(none, "pairs(0) of flat pieces", () -> none.pairs(0), -5);
        Check.query(none, "pairs(-1) of flat pieces", () -> none.pairs(-1), 0);
    }

    private static void differentEdges() {
        EdgeJoin x = new EdgeJoin();
        Set<Integer> edges = new HashSet<>();
        Set<Integer> bothWays = new HashSet<>();
        long seed = 5;
        for (int p = 0; p < 8; p++) {
            seed = seed * 6364136223846793005L + 1442695040888963407L;
            x.piece((int) (seed >>> 32));
            for (int s = 0; s < 4; s++) {
                edges.add(x.edge(p, s));
                bothWays.add(Math.min(x.edge(p, s), backwards(x.edge(p, s))));
            }
            Check.due("edges(0) of " + (p + 1), x.edges(0), edges.size());
            Check.due("edges(1) of " + (p + 1), x.edges(1), bothWays.size());
        }
        Check.due("edges(0) of eight same ones", Check.withSame(8, Check.plain(3)).edges(0), 1);
        EdgeJoin y = Check.withCells(Check.rim("01", "02", "03", "12"), Check.rim("13", "23", "11", "22"),
            Check.rim("33", "10", "20", "30"), Check.rim("21", "31", "32", "00"), 0);
        Check.due("edges(0) of all rims", y.edges(0), 16);
        Check.due("edges(1) of all rims", y.edges(1), 10);
    }

    private static int backwards(int edge) {
        return edge % 4 * 64 + edge / 4 % 4 * 16 + edge / 16 % 4 * 4 + edge / 64;
    }

    private static void edgesReadBackwards() {
        for (int edge = 0; edge < 256; edge++) {
            // Row 0 has the edge, row 3 has it from right to left or from left to right.
            int row = edge / 64 | edge / 16 % 4 << 2 | edge / 4 % 4 << 4 | edge % 4 << 6;
            int turned = edge % 4 | edge / 4 % 4 << 2 | edge / 16 % 4 << 4 | edge / 64 << 6;
            isCount(row | turned << 24, edge);
            isCount(row | row << 24, edge);
        }
    }

    private static void isCount(int cells, int edge) {
        EdgeJoin x = Check.withCells(cells);
        Set<Integer> all = new HashSet<>();
        Set<Integer> bothWays = new HashSet<>();
        for (int s = 0; s < 4; s++) {
            all.add(x.edge(0, s));
            bothWays.add(Math.min(x.edge(0, s), backwards(x.edge(0, s))));
        }
        Check.due("edge(0, 0)", x.edge(0, 0), edge);
        Check.due("edges(0) with " + edge, x.edges(0), all.size());
        Check.due("edges(1) with " + edge, x.edges(1), bothWays.size());
    }

    private static void joins() {
        Check.sentence("NO if w * h is not the number of pieces,", CallsSentencesTest::wrongNumber);
        Check.sentence("or with turns there are more than 4 pieces.", CallsSentencesTest::moreThanFour);
        Check.sentence("Returns the cost, or 4 * (number of the piece) + t for the piece in this place; -5 if there is no "
            + "arrangement;", CallsSentencesTest::noArrangement);
    }

    private static void wrongNumber() {
        for (int count = 0; count <= 8; count++) {
            for (int w = 1; w <= 8; w++) {
                EdgeJoin x = Check.withSame(count, Check.plain(1));
                for (int h = 1; h <= 8; h++) {
                    int[] size = {w, h};
                    String call = "joins(" + w + ", " + h + ", 0, 0, ";
                    if (w * h == count) {
                        Check.query(x, call + "-1)", () -> x.joins(size[0], size[1], 0, 0, -1), 0);
                        int last = w * h - 1;
                        Check.query(x, call + last + ")", () -> x.joins(size[0], size[1], 0, 0, last), 4 * last);
                    } else {
                        Check.refused(x, EdgeJoin.NO, call + "-1)", () -> x.joins(size[0], size[1], 0, 0, -1));
                        Check.refused(x, EdgeJoin.NO, call + "0)", () -> x.joins(size[0], size[1], 0, 0, 0));
                        int last = w * h - 1;
                        Check.refused(x, EdgeJoin.NO, call + last + ")", () -> x.joins(size[0], size[1], 0, 0, last));
                    }
                }
            }
        }
    }

    private static void moreThanFour() {
        for (int[] size : Check.sizes()) {
            int count = size[0] * size[1];
            EdgeJoin x = Check.withSame(count, Check.plain(1));
            Check.query(x, "joins of " + count + " without turns", () -> x.joins(size[0], size[1], 0, 0, count - 1),
                4 * (count - 1));
            if (count <= 4) {
                Check.query(x, "joins of " + count + " with turns", () -> x.joins(size[0], size[1], 1, 0, count - 1),
                    4 * (count - 1));
            } else {
                for (int framed = 0; framed <= 1; framed++) {
                    int frame = framed;
                    Check.refused(x, EdgeJoin.NO, "joins of " + count + " with turns",
                        () -> x.joins(size[0], size[1], 1, frame, -1));
                }
            }
        }
    }

    private static void noArrangement() {
        for (int[] size : Check.sizes()) {
            int count = size[0] * size[1];
            EdgeJoin x = Check.withSame(count, Check.plain(1));
            for (int p = -1; p < count; p++) {
                int place = p;
                Check.query(x, "joins without a flat side at " + p, () -> x.joins(size[0], size[1], 0, 1, place), -5);
            }
        }
        EdgeJoin x = Check.withCells(-1, 0);
        Check.query(x, "the cost of unlike pieces", () -> x.joins(2, 1, 1, 0, -1), 12);
    }

    private static void table() {
        Check.sentence("Returns how many pieces were on the table;",
            CallsSentencesTest::piecesOnTable);
        Check.sentence("NO if there is a piece in this place, or the piece is on the table already.",
            CallsSentencesTest::takenPlaces);
        Check.sentence("Returns the number of the piece that was there; BAD; NO if the place is empty.",
            CallsSentencesTest::emptyPlaces);
        Check.sentence("3: the place of the table where it is, or NONE; 4: its t there, or NONE",
            CallsSentencesTest::whereItIs);
    }

    private static void piecesOnTable() {
        for (int count = 0; count <= 8; count++) {
            EdgeJoin x = Check.withSame(8, Check.plain(count % 4));
            for (int p = 0; p < count; p++) {
                x.puts(7 - p, p, 3);
            }
            Check.due("table(1, 8) with " + count, x.table(1, 8), count);
            Check.due("cost()", x.cost(), 0);
            for (int p = 0; p < 8; p++) {
                Check.due("at(" + p + ")", x.at(p), NONE);
                Check.due("of(" + p + ", 3)", x.of(p, 3), NONE);
            }
            Check.due("table(1, 8) once more", x.table(1, 8), 0);
            Check.due("told(4)", x.told(4), 8);
        }
    }

    private static void takenPlaces() {
        EdgeJoin x = Check.withSame(8, Check.plain(2));
        for (int p = 0; p < 8; p++) {
            int place = p;
            Check.due("puts in place " + p, x.puts(p, p, 0), 0);
            if (p < 7) {
                Check.refused(x, EdgeJoin.NO, "puts in place " + p + " again", () -> x.puts(place, 7, 0));
                Check.refused(x, EdgeJoin.NO, "puts of piece " + p + " again", () -> x.puts(7, place, 0));
            }
        }
        for (int p = 0; p < 8; p++) {
            int place = p;
            Check.refused(x, EdgeJoin.NO, "puts on a full table", () -> x.puts(place, 7 - place, 1));
        }
    }

    private static void emptyPlaces() {
        EdgeJoin x = Check.withSame(8, Check.plain(2));
        for (int p = 0; p < 8; p++) {
            int place = p;
            Check.refused(x, EdgeJoin.NO, "takes(" + p + ") of an empty table", () -> x.takes(place));
        }
        for (int p = 0; p < 8; p++) {
            int place = p;
            x.puts(p, 7 - p, 2);
            Check.due("takes(" + p + ")", x.takes(p), 7 - p);
            Check.refused(x, EdgeJoin.NO, "takes(" + p + ") again", () -> x.takes(place));
        }
        Check.refused(x, EdgeJoin.BAD, "takes(8)", () -> x.takes(8));
    }

    private static void whereItIs() {
        EdgeJoin x = Check.withSame(8, Check.plain(2));
        for (int p = 0; p < 8; p++) {
            int piece = 7 - p;
            Check.query(x, "of(" + piece + ", 3) before", () -> x.of(piece, 3), NONE);
            Check.query(x, "of(" + piece + ", 4) before", () -> x.of(piece, 4), NONE);
            x.puts(p, piece, p % 4);
            int place = p;
            Check.query(x, "of(" + piece + ", 3)", () -> x.of(piece, 3), place);
            Check.query(x, "of(" + piece + ", 4)", () -> x.of(piece, 4), place % 4);
        }
        x.table(4, 2);
        Check.due("of(0, 3) after table", x.of(0, 3), NONE);
    }

    private static void nextPiece() {
        Check.sentence("an empty place that has a piece in a neighboring place", CallsSentencesTest::besideAPiece);
        Check.sentence("(any empty place, if the table is empty),", CallsSentencesTest::onTheEmptyTable);
        Check.sentence("such that the cost increases as little as possible;", CallsSentencesTest::leastIncrease);
        Check.sentence("of several the one with the lowest place, of these with the lowest piece, of these with the lowest t.",
            CallsSentencesTest::lowestOfSeveral);
        Check.sentence("its t (0 if turned is 0)", CallsSentencesTest::turnedOrNot);
        Check.sentence("Returns that number; NONE if there is no such piece or place; BAD.", CallsSentencesTest::noneIsNext);
    }

    private static void isNext(EdgeJoin x, int turned, int place, int content, int increase) {
        Check.query(x, "next(" + turned + ", 0)", () -> x.next(turned, 0), place);
        Check.query(x, "next(" + turned + ", 1)", () -> x.next(turned, 1), content);
        Check.query(x, "next(" + turned + ", 2)", () -> x.next(turned, 2), increase);
    }

    private static void besideAPiece() {
        for (int[] size : Check.sizes()) {
            int w = size[0];
            for (int p = 0; p < w * size[1]; p++) {
                int lowest = NONE;
                for (int q = w * size[1] - 1; q >= 0; q--) {
                    lowest = Math.abs(p % w - q % w) + Math.abs(p / w - q / w) == 1 ? q : lowest;
                }
                EdgeJoin x = Check.withCells(0, -1);
                x.table(w, size[1]);
                x.puts(p, 0, 0);
                boolean none = lowest == NONE;
                isNext(x, 0, lowest, none ? NONE : 4, none ? NONE : 12);
                isNext(x, 1, lowest, none ? NONE : 4, none ? NONE : 12);
            }
        }
    }

    private static void onTheEmptyTable() {
        for (int[] size : Check.sizes()) {
            EdgeJoin x = Check.withSame(8, 12345);
            x.table(size[0], size[1]);
            isNext(x, 0, 0, 0, 0);
            isNext(x, 1, 0, 0, 0);
            int last = size[0] * size[1] - 1;
            x.puts(last, 0, 0);
            x.takes(last);
            isNext(x, 1, 0, 0, 0);
        }
    }

    private static void leastIncrease() {
        // Place 1 touches one side, place 4 as well; what fits best comes last.
        EdgeJoin x = Check.withCells(Check.rim("00", "13", "22", "00"), 0, Check.plain(1), Check.rim("22", "00", "00", "00"));
        x.puts(0, 0, 0);
        isNext(x, 0, 4, 12, 0);
        isNext(x, 1, 4, 12, 0);
        x.drops(3);
        isNext(x, 0, 1, 4, 4);
        x.drops(1);
        isNext(x, 0, 1, 4, 4);
        x.piece(Check.rim("00", "31", "00", "00"));
        isNext(x, 0, 1, 4, 4);
        isNext(x, 1, 1, 8 + 2, 0);
    }

    private static void lowestOfSeveral() {
        EdgeJoin x = Check.withSame(8, Check.plain(1));
        int[] order = {5, 1, 0, 2, 3, 4, 6, 7};
        x.puts(5, 7, 3);
        for (int i = 1; i < 8; i++) {
            isNext(x, 0, order[i], 4 * (i - 1), 0);
            isNext(x, 1, order[i], 4 * (i - 1), 0);
            x.puts(order[i], i - 1, i % 4);
        }
        // Both pieces fit turned by 1 and by 3, and place 1 is as good as place 4.
        EdgeJoin y = Check.withCells(Check.plain(3), 0, Check.rim("33", "00", "33", "00"), Check.rim("33", "00", "33", "00"));
        y.puts(0, 0, 0);
        isNext(y, 1, 1, 8 + 1, 6);
        isNext(y, 0, 4, 8, 6);
        EdgeJoin z = Check.withCells(Check.rim("33", "33", "33", "33"), Check.rim("00", "00", "00", "33"),
            Check.rim("33", "00", "00", "33"));
        z.puts(0, 0, 0);
        isNext(z, 0, 1, 4, 0);
        isNext(z, 1, 1, 4, 0);
        z.puts(1, 1, 0);
        // As it is, piece 2 fits below the threes; turned by 1, it has a flat side for the flat one in place 1.
        isNext(z, 0, 4, 8, 0);
        isNext(z, 1, 2, 8 + 1, 0);
    }

    private static void turnedOrNot() {
        for (int t = 0; t < 4; t++) {
            EdgeJoin x = Check.withCells(Check.plain(3), Check.rim("33", "00", "00", "00"));
            x.table(2, 1);
            x.turns(1, 3 - t);
            x.puts(0, 0, 0);
            // The side of threes has to come to the left: from side 3 - t by t quarters.
            isNext(x, 1, 1, 4 + t, 6);
            isNext(x, 0, 1, 4, t == 0 ? 6 : 12);
        }
    }

    private static void noneIsNext() {
        isNext(new EdgeJoin(), 0, NONE, NONE, NONE);
        isNext(new EdgeJoin(), 1, NONE, NONE, NONE);
        for (int[] size : Check.sizes()) {
            int places = size[0] * size[1];
            // As many pieces as places, then one more and a full table.
            for (int count = places; count <= Math.min(8, places + 1); count++) {
                EdgeJoin x = Check.withSame(count, Check.plain(1));
                x.table(size[0], size[1]);
                for (int p = 0; p < places; p++) {
                    isNext(x, 0, p, 4 * p, 0);
                    x.puts(p, p, 0);
                }
                isNext(x, 0, NONE, NONE, NONE);
                isNext(x, 1, NONE, NONE, NONE);
                x.takes(places - 1);
                isNext(x, 1, places - 1, 4 * (places - 1), 0);
            }
        }
        EdgeJoin x = Check.withSame(3, 1);
        for (int p = 0; p < 3; p++) {
            x.puts(p, p, 0);
        }
        isNext(x, 1, NONE, NONE, NONE);
    }

    private static void texts() {
        Check.sentence("Returns the number of bytes of the text then; BAD; FULL if the text has 150 bytes.",
            CallsSentencesTest::countOfBytes);
        Check.sentence("Empties the text. Returns how many bytes it had.", CallsSentencesTest::emptyText);
        Check.sentence("Carries out the orders of the text, which stays, one after the other.",
            CallsSentencesTest::textStays);
        Check.sentence("If one of them would return an error, nothing is done.", CallsSentencesTest::nothingIsDone);
        Check.sentence("This is one change.", CallsSentencesTest::oneChange);
        Check.sentence("Returns the number of orders; -10 - p if the text has an error at position p; -1000 - k if order k, "
            + "from 0, would return an error (in both cases nothing changes).", CallsSentencesTest::answersOfReads);
    }

    private static void countOfBytes() {
        EdgeJoin x = new EdgeJoin();
        for (int i = 1; i <= 150; i++) {
            Check.due("type number " + i, x.type(i % 128), i);
        }
        Check.refused(x, EdgeJoin.FULL, "type number 151", () -> x.type(0));
        Check.refused(x, EdgeJoin.FULL, "type number 152", () -> x.type(127));
        Check.refused(x, EdgeJoin.BAD, "type(128)", () -> x.type(128));
        Check.due("told(3)", x.told(3), 150);
    }

    private static void emptyText() {
        for (int length = 0; length <= 150; length++) {
            EdgeJoin x = new EdgeJoin();
            for (int i = 0; i < length; i++) {
                x.type(';');
            }
            Check.due("clear() of " + length, x.clear(), length);
            Check.due("clear() again", x.clear(), 0);
            Check.due("told(3)", x.told(3), 0);
            Check.due("reads()", x.reads(), -10);
            Check.due("type behind it", x.type(' '), 1);
            Check.due("reads() of a space", x.reads(), -11);
        }
    }

    private static void textStays() {
        EdgeJoin x = new EdgeJoin();
        Check.write(x, "p0000000000000001;p0000000000000002;");
        for (int count = 2; count <= 8; count += 2) {
            Check.due("reads() for " + count + " pieces", x.reads(), 2);
            Check.due("told(3)", x.told(3), 36);
            Check.due("told(4)", x.told(4), count);
            Check.due("the cell of the first", x.cell(count - 2, 3, 3), 1);
            Check.due("the cell of the second", x.cell(count - 1, 3, 3), 2);
        }
        Check.due("reads() for ten pieces", x.reads(), -1000);
        Check.due("told(3) behind it", x.told(3), 36);
        x.drops(0);
        Check.due("reads() for nine pieces", x.reads(), -1001);
        Check.due("told(4) behind it", x.told(4), 7);
    }

    private static void nothingIsDone() {
        String[] first = {"p1230000000000000;", "t8 1;", "a3 1 2;", "x5;", "m4 2 2 1;"};
        String[] last = {"t3 3;", "a8 0 0;", "x8;", "m1 1 1 2;"};
        for (String fine : first) {
            for (String wrong : last) {
                EdgeJoin x = Check.withCells(5, 6);
                x.puts(5, 0, 1);
                Check.write(x, fine + wrong);
                Check.query(x, "reads() of " + fine + wrong, x::reads, -1001);
                Check.due("cell(0, 0, 0)", x.cell(0, 0, 0), 1);
                Check.due("back()", x.back(), 2);
                Check.due("at(5): puts is undone", x.at(5), NONE);
            }
        }
    }

    private static void oneChange() {
        EdgeJoin x = Check.withCells(5);
        Check.write(x, "t2 2;".repeat(20) + "m4 2 2 1;p0000000000000000;a1 4 3;");
        long before = x.digest();
        Check.due("reads()", x.reads(), 23);
        Check.due("told(7)", x.told(7), 2);
        Check.due("told(4)", x.told(4), 5);
        Check.due("back()", x.back(), 1);
        Check.due("digest() after back()", x.digest(), before);
        for (int i = 2; i <= 9; i++) {
            Check.due("reads() again", x.reads(), 23);
            Check.due("told(7)", x.told(7), Math.min(i, 6));
        }
    }

    private static void answersOfReads() {
        for (int count = 1; count <= 30; count++) {
            EdgeJoin x = new EdgeJoin();
            Check.due("reads() of " + count + " orders", Check.read(x, "t1 1;".repeat(count)), count);
            EdgeJoin y = new EdgeJoin();
            Check.write(y, "t1 1;".repeat(count - 1) + "x0;");
            Check.query(y, "reads() that fails at " + (count - 1), y::reads, -1000 - (count - 1));
        }
        for (int position = 0; position < 150; position++) {
            EdgeJoin x = new EdgeJoin();
            Check.write(x, " ".repeat(position) + "?");
            Check.query(x, "reads() of a wrong byte at " + position, x::reads, -10 - position);
        }
        EdgeJoin x = new EdgeJoin();
        x.makes(1, 8, 1, 0);
        for (int p = 0; p < 8; p++) {
            x.puts(p, p, 0);
        }
        Check.write(x, "x0;x1;x2;x3;x4;x5;x6;x7;" + "t1 1;".repeat(24) + "x0;");
        Check.query(x, "reads() that fails at 32", x::reads, -1032);
    }

    private static void numbers() {
        Check.sentence("Returns the number of states that are still kept; NO if there is none.", CallsSentencesTest::stillKept);
        Check.sentence("0, 1, 2: how often BAD, NO, FULL has been returned; 3: bytes of the text; 4: pieces; 5 and 6: w and h "
            + "of the table; 7: states that are kept", CallsSentencesTest::toldNumbers);
        Check.sentence("(long arithmetic that wraps)", CallsSentencesTest::wholeDigest);
        Check.sentence("An object is used for at most 512 calls after it has been made;",
            () -> {
                changesToTheLast();
                textsToTheLast();
                errorsToTheLast();
            });
    }

    private static void stillKept() {
        for (int changes = 0; changes <= 8; changes++) {
            EdgeJoin x = Check.withSame(changes, 1);
            for (int left = Math.min(6, changes) - 1; left >= 0; left--) {
                Check.due("back() after " + changes + " changes", x.back(), left);
            }
            Check.refused(x, EdgeJoin.NO, "back() after " + changes + " changes", x::back);
        }
    }

    private static void toldNumbers() {
        EdgeJoin x = new EdgeJoin();
        x.makes(1, 8, 1, 0);
        x.piece(0);
        x.piece(0);
        x.piece(0);
        x.takes(0);
        x.takes(8);
        x.takes(9);
        x.type(0);
        x.type(0);
        x.type(0);
        x.type(0);
        x.table(3, 2);
        int[] due = {2, 1, 3, 4, 8, 3, 2, 2};
        for (int what = 0; what < 8; what++) {
            int w = what;
            Check.query(x, "told(" + what + ")", () -> x.told(w), due[what]);
        }
        Check.refused(x, EdgeJoin.BAD, "told(8)", () -> x.told(8));
        Check.refused(x, EdgeJoin.BAD, "told(-1)", () -> x.told(-1));
    }

    /** The digest as the document says it, from the answers of the other calls. */
    private static long digestOf(EdgeJoin x) {
        long h = 2389;
        for (int what = 0; what < 8; what++) {
            h = 31 * h + x.told(what);
        }
        for (int p = 0; p < x.told(4); p++) {
            int cells = 0;
            for (int i = 0; i < 16; i++) {
                cells |= x.cell(p, i % 4, i / 4) << 2 * i;
            }
            h = 31 * h + cells;
            for (int what = 0; what < 5; what++) {
                h = 31 * h + x.of(p, what);
            }
        }
        for (int p = 0; p < x.told(5) * x.told(6); p++) {
            h = 31 * h + x.at(p);
        }
        int[] last = {x.cost(), x.pairs(-1), x.groups(), x.edges(0), x.edges(1)};
        for (int v : last) {
            h = 31 * h + v;
        }
        return h;
    }

    private static void wholeDigest() {
        for (int[] size : Check.sizes()) {
            for (int count = 0; count <= 8; count++) {
                EdgeJoin x = new EdgeJoin();
                long seed = 31L * count + size[0];
                for (int p = 0; p < count; p++) {
                    seed = seed * 6364136223846793005L + 1442695040888963407L;
                    x.piece((int) (seed >>> 32));
                }
                x.table(size[0], size[1]);
                for (int p = 0; p < count; p++) {
                    x.puts(p * 3 % 8, p, p % 4);
                }
                x.type(1);
                Check.due("digest() of " + count, x.digest(), digestOf(x));
            }
        }
        EdgeJoin x = Check.withCells(-1, -2, -3, -4, -5, Integer.MIN_VALUE, Integer.MAX_VALUE, 0);
        Check.due("digest() of negative cells", x.digest(), digestOf(x));
        Check.due("digest() of a new object", new EdgeJoin().digest(), digestOf(new EdgeJoin()));
    }

    private static void changesToTheLast() {
        EdgeJoin x = new EdgeJoin();
        for (int n = 1; n <= 510; n++) {
            Check.due("change " + n, x.makes(n, 1 + n % 4, 1 + n % 2, n % 2), (1 + n % 4) * (1 + n % 2));
        }
        Check.due("back(), the 511th call", x.back(), 5);
        EdgeJoin last = new EdgeJoin();
        for (int n = 504; n <= 509; n++) {
            last.makes(n, 1 + n % 4, 1 + n % 2, n % 2);
        }
        last.back();
        last.makes(509, 1 + 509 % 4, 1 + 509 % 2, 509 % 2);
        last.turns(0, 0);
        last.back();
        Check.due("digest(), the 512th call", x.digest(), last.digest());
    }

    private static void textsToTheLast() {
        EdgeJoin x = new EdgeJoin();
        for (int n = 1; n <= 3; n++) {
            for (int i = 1; i <= 150; i++) {
                Check.due("type " + i + " of round " + n, x.type(';'), i);
            }
            Check.due("clear() of round " + n, x.clear(), 150);
        }
        for (int n = 1; n <= 58; n++) {
            Check.due("reads() of nothing", x.reads(), -10);
        }
        Check.due("told(3), the 512th call", x.told(3), 0);
    }

    private static void errorsToTheLast() {
        EdgeJoin x = Check.withSame(8, 1);
        for (int n = 1; n <= 251; n++) {
            Check.due("piece", x.piece(n), EdgeJoin.FULL);
            Check.due("told(-1)", x.told(-1), EdgeJoin.BAD);
        }
        Check.due("told(0), the 511th call", x.told(0), 251);
        Check.due("told(2), the 512th call", x.told(2), 251);
    }
}
