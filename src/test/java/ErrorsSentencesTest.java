import java.util.List;
import java.util.function.ToIntFunction;

/** The sentences of the section "Undo and errors", each with a test of its own. */
public final class ErrorsSentencesTest {
    private static final int BAD = EdgeJoin.BAD;
    private static final int NO = EdgeJoin.NO;
    private static final int FULL = EdgeJoin.FULL;

    private record Call(String name, ToIntFunction<EdgeJoin> on) {
    }

    public static void main(String[] args) {
        states();
        order();
        refusals();
        notErrors();
        Check.end("ErrorsSentencesTest");
    }

    private static Call call(String name, ToIntFunction<EdgeJoin> on) {
        return new Call(name, on);
    }

    /** Eight pieces, three of them on the table, a text of 150 bytes and six states. */
    private static EdgeJoin fullScene() {
        EdgeJoin x = new EdgeJoin();
        x.makes(31, 4, 2, 1);
        x.puts(0, 3, 1);
        x.puts(1, 5, 0);
        x.takes(1);
        x.turns(2, 1);
        x.puts(6, 0, 2);
        x.puts(5, 7, 3);
        Check.write(x, "x0;a0 1 3;t4 2;" + " ".repeat(135));
        return x;
    }

    private static void states() {
        Check.sentence("Each successful call of a method that is called a change below saves the state before it (pieces "
            + "and table),", ErrorsSentencesTest::changesSave);
        Check.sentence("even if it changes nothing.", ErrorsSentencesTest::emptyChangesSave);
        Check.sentence("At most 6 states are kept;", ErrorsSentencesTest::atMostSix);
        Check.sentence("the oldest ones are lost.", ErrorsSentencesTest::oldestAreLost);
        Check.sentence("Restores the latest state that is kept, which is not kept any more then.",
            ErrorsSentencesTest::latestIsRestored);
        Check.sentence("a method that is called a change below", ErrorsSentencesTest::othersDoNotSave);
    }

    private static List<Call> changes() {
        return List.of(call("piece(9)", x -> x.piece(9)), call("turns(1, 1)", x -> x.turns(1, 1)),
            call("drops(0)", x -> x.drops(0)), call("makes(8, 1, 3, 1)", x -> x.makes(8, 1, 3, 1)),
            call("table(2, 2)", x -> x.table(2, 2)), call("puts(3, 1, 2)", x -> x.puts(3, 1, 2)),
            call("takes(5)", x -> x.takes(5)), call("reads()", x -> x.reads()));
    }

    private static EdgeJoin smallScene() {
        EdgeJoin x = Check.withPieces("0123 1230 2301 3012", "1111 1001 1002 3333");
        x.puts(5, 0, 1);
        Check.write(x, "x5;p0000000000000001;a5 2 2;");
        return x;
    }

    private static void changesSave() {
        for (Call change : changes()) {
            EdgeJoin x = smallScene();
            long before = x.digest();
            change.on().applyAsInt(x);
            Check.due("told(7) after " + change.name(), x.told(7), 4);
            Check.holds(change.name() + " changes something", stateOf(x) != stateOf(smallScene()));
            Check.due("back() of " + change.name(), x.back(), 3);
            Check.due("digest() after back() of " + change.name(), x.digest(), before);
        }
    }

    private static List<Call> emptyChanges() {
        return List.of(call("turns(0, 0)", x -> x.turns(0, 0)), call("turns(1, 1)", x -> x.turns(1, 1)),
            call("table(2, 1)", x -> x.table(2, 1)), call("reads()", x -> x.reads()));
    }

    private static void emptyChangesSave() {
        for (Call change : emptyChanges()) {
            EdgeJoin x = Check.withCells(77, Check.plain(2));
            x.table(2, 1);
            Check.write(x, "a1 1 3;x1;");
            long state = stateOf(x);
            for (int kept = 4; kept <= 6; kept++) {
                change.on().applyAsInt(x);
                Check.due("told(7) after " + change.name(), x.told(7), kept);
                Check.due("the state after " + change.name(), stateOf(x), state);
            }
            for (int kept = 5; kept >= 3; kept--) {
                Check.due("back() of " + change.name(), x.back(), kept);
                Check.due("the state after back() of " + change.name(), stateOf(x), state);
            }
            x.back();
            Check.due("told(5) after one back() more", x.told(5), 4);
        }
        EdgeJoin y = new EdgeJoin();
        y.makes(5, 1, 2, 1);
        long state = stateOf(y);
        y.makes(5, 1, 2, 1);
        Check.due("told(7) after the same makes", y.told(7), 2);
        Check.due("the state after the same makes", stateOf(y), state);
        y.back();
        Check.due("the state after its back()", stateOf(y), state);
        y.back();
        Check.due("told(4) after the first one's back()", y.told(4), 0);
    }

    /** A hash of the pieces and the table alone. */
    private static long stateOf(EdgeJoin x) {
        long h = 31L * x.told(5) + x.told(6);
        for (int p = 0; p < x.told(4); p++) {
            for (int i = 0; i < 16; i++) {
                h = 31 * h + x.cell(p, i % 4, i / 4);
            }
        }
        for (int p = 0; p < x.told(5) * x.told(6); p++) {
            h = 31 * h + x.at(p);
        }
        return h;
    }

    /** The n-th of a long row of changes, each of them with another state behind it. */
    private static void change(EdgeJoin x, int n) {
        Check.due("change " + n, x.makes(n, 1 + n % 3, 1 + n / 3 % 2, n % 2), (1 + n % 3) * (1 + n / 3 % 2));
    }

    private static EdgeJoin changed(int times) {
        EdgeJoin x = new EdgeJoin();
        for (int n = 0; n < times; n++) {
            change(x, n);
        }
        return x;
    }

    private static void atMostSix() {
        EdgeJoin x = new EdgeJoin();
        Check.due("told(7) at first", x.told(7), 0);
        for (int n = 0; n < 40; n++) {
            change(x, n);
            Check.due("told(7) after " + (n + 1) + " changes", x.told(7), Math.min(n + 1, 6));
        }
        for (int left = 5; left >= 0; left--) {
            Check.due("back()", x.back(), left);
            Check.due("told(7) after back()", x.told(7), left);
        }
        Check.refused(x, NO, "back() without a state", x::back);
        Check.refused(x, NO, "back() once more", x::back);
    }

    private static void oldestAreLost() {
        for (int times = 0; times <= 20; times++) {
            EdgeJoin x = changed(times);
            int kept = Math.min(times, 6);
            for (int i = 1; i <= kept; i++) {
                Check.due("back() " + i + " after " + times + " changes", x.back(), kept - i);
            }
            Check.due("the oldest state of " + times + " changes", stateOf(x), stateOf(changed(times - kept)));
            Check.due("back() beyond it", x.back(), NO);
            Check.due("the state still", stateOf(x), stateOf(changed(times - kept)));
        }
    }

    /** Changes and backs by turns, so that the kept states wander. */
    private static void latestIsRestored() {
        for (int backs = 1; backs <= 6; backs++) {
            EdgeJoin x = new EdgeJoin();
            int depth = 0;
            int kept = 0;
            for (int round = 0; round < 12; round++) {
                for (int i = 0; i < 7; i++) {
                    change(x, depth);
                    depth++;
                }
                kept = 6;
                for (int i = 0; i < backs; i++) {
                    kept--;
                    depth--;
                    Check.due("back() in round " + round, x.back(), kept);
                }
                Check.due("told(4) in round " + round, x.told(4), (1 + (depth + 2) % 3) * (1 + (depth - 1) / 3 % 2));
                if (round % 6 == 5) {
                    Check.due("the state in round " + round, stateOf(x), stateOf(changed(depth)));
                }
            }
        }
    }

    private static List<Call> queries() {
        return List.of(call("cell(7, 3, 3)", x -> x.cell(7, 3, 3)), call("of(3, 2)", x -> x.of(3, 2)),
            call("edge(7, 3)", x -> x.edge(7, 3)), call("unlike(0, 0, 7, 3)", x -> x.unlike(0, 0, 7, 3)),
            call("mate of a side", x -> x.mate(0, x.edge(0, 0) == 0 ? x.edge(0, 1) == 0 ? 2 : 1 : 0)),
            call("pairs(-1)", x -> x.pairs(-1)), call("pairs(0)", x -> x.pairs(0)), call("pairs(99)", x -> x.pairs(99)),
            call("groups()", EdgeJoin::groups), call("edges(0)", x -> x.edges(0)), call("edges(1)", x -> x.edges(1)),
            call("joins(4, 2, 0, 0, -1)", x -> x.joins(4, 2, 0, 0, -1)),
            call("joins(2, 4, 0, 1, 7)", x -> x.joins(2, 4, 0, 1, 7)), call("at(5)", x -> x.at(5)),
            call("at(7)", x -> x.at(7)), call("cost()", EdgeJoin::cost), call("next(0, 0)", x -> x.next(0, 0)),
            call("next(1, 1)", x -> x.next(1, 1)), call("next(1, 2)", x -> x.next(1, 2)),
            call("told(7)", x -> x.told(7)), call("digest()", x -> (int) x.digest()));
    }

    private static void othersDoNotSave() {
        for (Call query : queries()) {
            EdgeJoin x = fullScene();
            int answer = query.on().applyAsInt(x);
            goesOnAs(query.name(), x, fullScene());
            Check.due(query.name() + " once more", query.on().applyAsInt(fullScene()), answer);
        }
        EdgeJoin x = smallScene();
        long state = stateOf(x);
        x.type('q');
        Check.due("told(7) after type", x.told(7), 3);
        x.clear();
        Check.due("told(7) after clear", x.told(7), 3);
        Check.due("reads() of the empty text", x.reads(), -10);
        Check.due("told(7) after a refused reads()", x.told(7), 3);
        Check.due("the state after them", stateOf(x), state);
        x.back();
        Check.due("at(5) after back(): puts was the latest change", x.at(5), EdgeJoin.NONE);
    }

    /** Two objects answer the same from here on, their text and all their kept states included. */
    private static void goesOnAs(String what, EdgeJoin x, EdgeJoin y) {
        Check.due("digest() after " + what, x.digest(), y.digest());
        Check.due("next() after " + what, x.next(1, 1), y.next(1, 1));
        Check.due("reads() after " + what, x.reads(), y.reads());
        Check.due("digest() after " + what + " and reads()", x.digest(), y.digest());
        for (int i = 0; i < 7; i++) {
            Check.due("back() after " + what, x.back(), y.back());
            Check.due("digest() after " + what + " and back()", x.digest(), y.digest());
        }
        Check.due("clear() after " + what, x.clear(), y.clear());
    }

    private static void order() {
        Check.sentence("BAD: an argument is out of its range, or names something that does not exist. NO: the call is not "
            + "possible, as the method says. FULL: there is no room. If several of them apply, the first one in this order "
            + "is returned.", () -> {
                badBeforeNo();
                badBeforeFull();
            });
    }

    private static void badBeforeNo() {
        EdgeJoin x = Check.withCells(Check.plain(1), 0, Check.plain(2));
        x.puts(3, 0, 1);
        Check.refused(x, BAD, "puts on a taken place, wrong t", () -> x.puts(3, 1, 4));
        Check.refused(x, BAD, "puts on a taken place, no such piece", () -> x.puts(3, 3, 0));
        Check.refused(x, BAD, "puts of a lying piece, no such place", () -> x.puts(8, 0, 0));
        Check.refused(x, BAD, "puts of a lying piece, wrong t", () -> x.puts(0, 0, -1));
        Check.refused(x, NO, "puts on a taken place", () -> x.puts(3, 1, 0));
        Check.refused(x, BAD, "takes, no such place", () -> x.takes(8));
        Check.refused(x, BAD, "mate of a flat piece, wrong side", () -> x.mate(1, 4));
        Check.refused(x, NO, "mate of a flat side", () -> x.mate(1, 3));
        Check.refused(x, BAD, "joins of a wrong number, wrong turned", () -> x.joins(2, 2, 2, 0, -1));
        Check.refused(x, BAD, "joins of a wrong number, wrong framed", () -> x.joins(2, 2, 0, -1, -1));
        Check.refused(x, BAD, "joins of a wrong number, no such place", () -> x.joins(2, 2, 0, 0, 4));
        Check.refused(x, BAD, "joins of a wrong number, wrong w", () -> x.joins(9, 1, 0, 0, -1));
        Check.refused(x, BAD, "joins of a wrong number, wrong h", () -> x.joins(1, 0, 0, 0, -1));
        Check.refused(x, NO, "joins of a wrong number", () -> x.joins(2, 2, 0, 0, 3));
        EdgeJoin y = Check.withSame(5, 1);
        Check.refused(y, BAD, "joins of five with turns, no such place", () -> y.joins(5, 1, 1, 0, 5));
        Check.refused(y, NO, "joins of five with turns", () -> y.joins(5, 1, 1, 0, 4));
    }

    private static void badBeforeFull() {
        EdgeJoin x = fullScene();
        Check.refused(x, BAD, "type(128) of a full text", () -> x.type(128));
        Check.refused(x, BAD, "type(-1) of a full text", () -> x.type(-1));
        Check.refused(x, FULL, "type(0) of a full text", () -> x.type(0));
        Check.refused(x, FULL, "type(127) of a full text", () -> x.type(127));
    }

    private static void refusals() {
        Check.sentence("A call that returns one of them changes nothing,", ErrorsSentencesTest::refusedChangesNothing);
        Check.sentence("but for each of the three it is counted how often it has been returned",
            ErrorsSentencesTest::countsOfThree);
        Check.sentence("(by queries, too;", ErrorsSentencesTest::countsOfQueries);
        Check.sentence("what the orders of a text return, and error positions, are not counted).",
            ErrorsSentencesTest::ordersAreNotCounted);
        Check.sentence("(it can be negative, and can be equal to an error code; only an error is counted)",
            ErrorsSentencesTest::cellsAreNotCounted);
    }

    private static List<Call> badCalls() {
        return List.of(call("turns(8, 0)", x -> x.turns(8, 0)), call("turns(0, 4)", x -> x.turns(0, 4)),
            call("drops(8)", x -> x.drops(8)), call("drops(-1)", x -> x.drops(-1)),
            call("makes(1, 3, 3, 0)", x -> x.makes(1, 3, 3, 0)), call("makes(1, 1, 1, 2)", x -> x.makes(1, 1, 1, 2)),
            call("makes(1000000, 1, 1, 0)", x -> x.makes(1000000, 1, 1, 0)), call("cell(0, 4, 0)", x -> x.cell(0, 4, 0)),
            call("of(0, 5)", x -> x.of(0, 5)), call("edge(8, 0)", x -> x.edge(8, 0)),
            call("unlike(1, 0, 1, 1)", x -> x.unlike(1, 0, 1, 1)), call("mate(0, 4)", x -> x.mate(0, 4)),
            call("pairs(-2)", x -> x.pairs(-2)), call("edges(2)", x -> x.edges(2)),
            call("joins(4, 2, 0, 0, 8)", x -> x.joins(4, 2, 0, 0, 8)), call("table(3, 3)", x -> x.table(3, 3)),
            call("puts(8, 1, 0)", x -> x.puts(8, 1, 0)), call("puts(2, 8, 0)", x -> x.puts(2, 8, 0)),
            call("puts(2, 1, 4)", x -> x.puts(2, 1, 4)), call("takes(8)", x -> x.takes(8)), call("at(-1)", x -> x.at(-1)),
            call("next(2, 0)", x -> x.next(2, 0)), call("next(0, 3)", x -> x.next(0, 3)),
            call("type(128)", x -> x.type(128)), call("type(-1)", x -> x.type(-1)), call("told(8)", x -> x.told(8)));
    }

    private static List<Call> noCalls() {
        return List.of(call("mate of a flat side", ErrorsSentencesTest::mateOfFlatSide),
            call("joins(3, 2, 0, 0, -1)", x -> x.joins(3, 2, 0, 0, -1)),
            call("joins(4, 2, 1, 0, 0)", x -> x.joins(4, 2, 1, 0, 0)), call("puts(0, 1, 0)", x -> x.puts(0, 1, 0)),
            call("puts(2, 3, 0)", x -> x.puts(2, 3, 0)), call("takes(2)", x -> x.takes(2)));
    }

    private static int mateOfFlatSide(EdgeJoin x) {
        // Every piece of four by two has a flat side.
        int flat = 0;
        while (flat < 3 && x.edge(1, flat) != 0) {
            flat++;
        }
        return x.mate(1, flat);
    }

    private static List<Call> fullCalls() {
        return List.of(call("piece(1)", x -> x.piece(1)), call("type(59)", x -> x.type(59)));
    }

    /** The other object gets the same count by another call, told() or at() or the like, and must then be the same. */
    private static void refusedChangesNothing() {
        isAsRefused(BAD, badCalls(), call("told(-1)", x -> x.told(-1)));
        isAsRefused(NO, noCalls(), call("joins(1, 1, 0, 0, -1)", x -> x.joins(1, 1, 0, 0, -1)));
        for (Call refused : fullCalls()) {
            isAsRefused(FULL, List.of(refused), fullCalls().get(refused.name().startsWith("piece") ? 1 : 0));
        }
        EdgeJoin x = new EdgeJoin();
        EdgeJoin y = new EdgeJoin();
        Check.write(x, "p0000000000000000;");
        Check.write(y, "p0000000000000000;");
        Check.due("back() of a new object", x.back(), NO);
        Check.due("takes(0) of a new object", y.takes(0), NO);
        goesOnAs("back() of a new object", x, y);
    }

    private static void isAsRefused(int error, List<Call> calls, Call other) {
        for (Call refused : calls) {
            EdgeJoin x = fullScene();
            EdgeJoin y = fullScene();
            Check.due(refused.name(), refused.on().applyAsInt(x), error);
            Check.due(other.name(), other.on().applyAsInt(y), error);
            goesOnAs(refused.name(), x, y);
        }
    }

    private static void areCounts(EdgeJoin x, int bad, int no, int full) {
        Check.due("told(0)", x.told(0), bad);
        Check.due("told(1)", x.told(1), no);
        Check.due("told(2)", x.told(2), full);
    }

    private static void countsOfThree() {
        EdgeJoin x = fullScene();
        areCounts(x, 0, 0, 0);
        int[] due = new int[3];
        for (int round = 0; round < 3; round++) {
            for (Call refused : badCalls()) {
                refused.on().applyAsInt(x);
                due[0]++;
            }
            areCounts(x, due[0], due[1], due[2]);
            for (Call refused : noCalls()) {
                refused.on().applyAsInt(x);
                due[1]++;
            }
            areCounts(x, due[0], due[1], due[2]);
            for (Call refused : fullCalls()) {
                refused.on().applyAsInt(x);
                due[2]++;
            }
            areCounts(x, due[0], due[1], due[2]);
        }
        x.back();
        areCounts(x, due[0], due[1], due[2]);
        EdgeJoin y = new EdgeJoin();
        for (int n = 1; n < 512; n++) {
            Check.due("back() number " + n, y.back(), NO);
        }
        Check.due("told(1), the 512th call", y.told(1), 511);
        areCounts(new EdgeJoin(), 0, 0, 0);
    }

    private static void countsOfQueries() {
        EdgeJoin x = fullScene();
        List<Call> queries = List.of(call("cell", y -> y.cell(8, 0, 0)), call("of", y -> y.of(8, 0)),
            call("edge", y -> y.edge(0, -1)), call("unlike", y -> y.unlike(0, 0, 0, 0)), call("mate", y -> y.mate(0, -1)),
            call("pairs", y -> y.pairs(-2)), call("edges", y -> y.edges(-1)), call("joins", y -> y.joins(0, 1, 0, 0, 0)),
            call("at", y -> y.at(8)), call("next", y -> y.next(-1, 0)), call("told", y -> y.told(-1)));
        for (int i = 0; i < queries.size(); i++) {
            Check.due(queries.get(i).name(), queries.get(i).on().applyAsInt(x), BAD);
            areCounts(x, i + 1, 0, 0);
        }
        Check.due("mate of a flat side", mateOfFlatSide(x), NO);
        areCounts(x, queries.size(), 1, 0);
        Check.due("joins(1, 1, 0, 0, -1)", x.joins(1, 1, 0, 0, -1), NO);
        areCounts(x, queries.size(), 2, 0);
    }

    private static void ordersAreNotCounted() {
        String[] orders = {"t9 9;", "a9 9 9;", "a0 7 0;", "x9;", "x1;", "m0 9 9 9;", "p0000000000000000;",
            "x0;x0;", "", " ", "x", "q", "x0000000;", "p4", ";"};
        for (String order : orders) {
            EdgeJoin x = fullScene();
            int answer = Check.read(x, order);
            Check.holds("reads() refuses '" + order + "'", answer <= -10);
            areCounts(x, 0, 0, 0);
            EdgeJoin y = fullScene();
            Check.write(y, order);
            goesOnAs("reads() of '" + order + "'", x, y);
        }
    }

    private static void cellsAreNotCounted() {
        for (int code = -5; code <= -1; code++) {
            EdgeJoin x = Check.withCells(code);
            for (int t = 0; t < 4; t++) {
                x.turns(0, t);
                int back = x.turns(0, (4 - t) % 4);
                Check.due("turns to " + code, back, code);
                areCounts(x, 0, 0, 0);
                Check.due("told(7)", x.told(7), Math.min(6, 3 + 2 * t));
            }
            Check.refused(x, BAD, "turns(1, 0)", () -> x.turns(1, 0));
        }
    }

    private static void notErrors() {
        Check.sentence("NONE, -5, and negative numbers that the methods describe are not errors.",
            ErrorsSentencesTest::negativeAnswers);
        Check.sentence("They are returned only if no error applies.", ErrorsSentencesTest::errorsFirst);
    }

    private static void negativeAnswers() {
        EdgeJoin x = Check.withCells(Check.plain(1));
        Check.query(x, "of(0, 3)", () -> x.of(0, 3), EdgeJoin.NONE);
        Check.query(x, "of(0, 4)", () -> x.of(0, 4), EdgeJoin.NONE);
        Check.query(x, "mate(0, 0)", () -> x.mate(0, 0), EdgeJoin.NONE);
        Check.query(x, "pairs(0)", () -> x.pairs(0), -5);
        Check.query(x, "joins(1, 1, 0, 1, -1)", () -> x.joins(1, 1, 0, 1, -1), -5);
        Check.query(x, "joins(1, 1, 1, 1, 0)", () -> x.joins(1, 1, 1, 1, 0), -5);
        Check.query(x, "at(0)", () -> x.at(0), EdgeJoin.NONE);
        Check.query(x, "reads()", x::reads, -10);
        x.puts(0, 0, 0);
        for (int what = 0; what < 3; what++) {
            int w = what;
            Check.query(x, "next(1, " + what + ")", () -> x.next(1, w), EdgeJoin.NONE);
        }
        areCounts(x, 0, 0, 0);
    }

    private static void errorsFirst() {
        EdgeJoin x = Check.withCells(Check.plain(1));
        x.puts(0, 0, 0);
        Check.refused(x, BAD, "next without a piece, wrong turned", () -> x.next(2, 0));
        Check.refused(x, BAD, "next without a piece, wrong what", () -> x.next(0, 3));
        Check.refused(x, BAD, "joins without an arrangement, no such place", () -> x.joins(1, 1, 0, 1, 1));
        Check.refused(x, NO, "joins without an arrangement, wrong number", () -> x.joins(2, 1, 0, 1, 0));
        Check.refused(x, BAD, "mate without a mate, wrong side", () -> x.mate(0, 4));
        x.piece(0);
        Check.refused(x, NO, "mate of a flat side, where no other is not flat", () -> x.mate(1, 0));
        x.drops(0);
        Check.refused(x, NO, "mate of a flat side of the only piece", () -> x.mate(0, 0));
        Check.refused(x, BAD, "of a piece that is not there, where it is", () -> x.of(1, 3));
        EdgeJoin y = new EdgeJoin();
        Check.refused(y, BAD, "pairs(-2) without pairs", () -> y.pairs(-2));
        Check.refused(y, BAD, "next without pieces, wrong turned", () -> y.next(-1, 0));
        Check.refused(y, NO, "joins without pieces", () -> y.joins(1, 1, 0, 1, -1));
    }
}
