/** Random runs of at most 512 calls, each answer compared with the slow model: all promises. */
public final class RandomRunsTest {
    private static final int RUNS = 600;
    private static final int CALLS = 512;
    private static final String ORDER_SIGNS = "ptaxm;  0123456789 q";

    private long seed;
    private final EdgeJoin x = new EdgeJoin();
    private final SlowModel y = new SlowModel();
    private final int kind;
    private String waiting = "";

    private RandomRunsTest(int run) {
        seed = 7919L * run + 13;
        kind = run % 4;
    }

    public static void main(String[] args) {
        for (int run = 0; run < RUNS && Check.failures() < 20; run++) {
            new RandomRunsTest(run).play(run);
        }
        pictures();
        joinsOfEight();
        Check.end("RandomRunsTest");
    }

    private int below(int bound) {
        seed = seed * 6364136223846793005L + 1442695040888963407L;
        return (int) ((seed >>> 33) % bound);
    }

    /** Mostly low to high, sometimes just outside, rarely far outside. */
    private int some(int low, int high) {
        int luck = below(60);
        if (luck == 0) {
            return low - 1;
        }
        if (luck == 1) {
            return high + 1;
        }
        if (luck == 2) {
            return below(2) == 0 ? Integer.MIN_VALUE : Integer.MAX_VALUE;
        }
        return low + below(high - low + 1);
    }

    private int aPiece() {
        return some(0, Math.max(0, x.told(4) - 1));
    }

    private int aPlace() {
        return some(0, x.told(5) * x.told(6) - 1);
    }

    /** Pieces with few colors have many ties, and those with zeros at the rim have flat sides. */
    private int someCells() {
        int colors = 1 + below(4);
        int cells = 0;
        for (int i = 0; i < 16; i++) {
            cells |= below(colors) << 2 * i;
        }
        int[] rims = {0x000000ff, 0xc0c0c0c0, 0xff000000, 0x03030303};
        for (int rim : rims) {
            if (below(3) == 0) {
                cells &= ~rim;
            }
        }
        return cells;
    }

    private String someOrder() {
        switch (below(6)) {
            case 0: {
                StringBuilder order = new StringBuilder("p");
                for (int i = 0; i < 16; i++) {
                    order.append(below(9) == 0 ? " " : "").append(below(4));
                }
                return order.append(';').toString();
            }
            case 1:
                return "t" + (1 + below(4)) + " " + (1 + below(2)) + (below(4) == 0 ? " ;" : ";");
            case 2:
            case 3:
                return "a" + (below(4) == 0 ? " " : "") + below(7) + " " + below(6) + "  " + below(4) + ";";
            case 4:
                return "x" + below(8) + ";";
            default:
                return "m" + below(1000000) + " " + (1 + below(4)) + " " + (1 + below(2)) + " " + below(2) + ";";
        }
    }

    private String someText() {
        StringBuilder text = new StringBuilder(below(5) == 0 ? " " : "");
        int orders = 1 + below(5);
        for (int i = 0; i < orders; i++) {
            text.append(someOrder());
        }
        if (below(3) == 0) {
            int i = below(text.length());
            char sign = ORDER_SIGNS.charAt(below(ORDER_SIGNS.length()));
            switch (below(3)) {
                case 0 -> text.setCharAt(i, sign);
                case 1 -> text.insert(i, sign);
                default -> text.setLength(i);
            }
        }
        return text.toString();
    }

    private void play(int run) {
        for (int call = 0; call < CALLS; call++) {
            if (!waiting.isEmpty()) {
                char c = waiting.charAt(0);
                waiting = waiting.substring(1);
                same(run, "type(" + (int) c + ")", x.type(c), y.type(c));
                if (waiting.isEmpty()) {
                    same(run, "reads()", x.reads(), y.reads());
                }
            } else if (kind == 3 && below(4) == 0) {
                same(run, "clear()", x.clear(), y.clear());
                waiting = someText();
            } else {
                step(run, below(29));
            }
        }
        same(run, "digest() at the end", x.digest(), y.digest());
    }

    private static void same(int run, String call, long got, long want) {
        Check.due("run " + run + ": " + call, got, want);
    }

    private void step(int run, int which) {
        if (which < 12) {
            change(run, which);
        } else {
            query(run, which);
        }
    }

    private void change(int run, int which) {
        int p = aPiece();
        int place = aPlace();
        int t = some(0, 3);
        int a = some(1, below(2) == 0 ? 8 : 3);
        int b = some(1, below(3) == 0 ? 8 : 2);
        switch (which) {
            case 0, 1, 2 -> {
                int cells = someCells();
                same(run, "piece(" + cells + ")", x.piece(cells), y.piece(cells));
            }
            case 3, 4 -> same(run, "turns(" + p + ", " + t + ")", x.turns(p, t), y.turns(p, t));
            case 5 -> {
                if (kind != 1) {
                    same(run, "drops(" + p + ")", x.drops(p), y.drops(p));
                }
            }
            case 6 -> {
                int from = some(0, 999999);
                int turned = some(0, 1);
                if (below(3) == 0) {
                    same(run, "makes(" + from + ", " + a + ", " + b + ", " + turned + ")",
                        x.makes(from, a, b, turned), y.makes(from, a, b, turned));
                }
            }
            case 7 -> {
                if (below(3) == 0) {
                    same(run, "table(" + a + ", " + b + ")", x.table(a, b), y.table(a, b));
                }
            }
            case 8, 9 -> same(run, "puts(" + place + ", " + p + ", " + t + ")", x.puts(place, p, t), y.puts(place, p, t));
            case 10 -> same(run, "takes(" + place + ")", x.takes(place), y.takes(place));
            default -> same(run, "back()", x.back(), y.back());
        }
    }

    private void query(int run, int which) {
        int p = aPiece();
        int q = aPiece();
        int s = some(0, 3);
        int t = some(0, 3);
        int place = aPlace();
        int what = some(0, 4);
        switch (which) {
            case 12 -> same(run, "cell(" + p + ", " + s + ", " + t + ")", x.cell(p, s, t), y.cell(p, s, t));
            case 13 -> same(run, "of(" + p + ", " + what + ")", x.of(p, what), y.of(p, what));
            case 14 -> same(run, "edge(" + p + ", " + s + ")", x.edge(p, s), y.edge(p, s));
            case 15, 16 -> same(run, "unlike(" + p + ", " + s + ", " + q + ", " + t + ")",
                x.unlike(p, s, q, t), y.unlike(p, s, q, t));
            case 17, 18 -> same(run, "mate(" + p + ", " + s + ")", x.mate(p, s), y.mate(p, s));
            case 19 -> {
                int i = some(-1, 8);
                same(run, "pairs(" + i + ")", x.pairs(i), y.pairs(i));
            }
            case 20 -> same(run, "groups()", x.groups(), y.groups());
            case 21 -> same(run, "edges(" + (what - 1) + ")", x.edges(what - 1), y.edges(what - 1));
            case 22 -> join(run);
            case 23 -> same(run, "at(" + place + ")", x.at(place), y.at(place));
            case 24 -> same(run, "cost()", x.cost(), y.cost());
            case 25, 26 -> {
                int turned = some(0, 1);
                int i = some(0, 2);
                same(run, "next(" + turned + ", " + i + ")", x.next(turned, i), y.next(turned, i));
            }
            case 27 -> {
                int i = some(0, 7);
                same(run, "told(" + i + ")", x.told(i), y.told(i));
            }
            default -> same(run, "digest()", x.digest(), y.digest());
        }
    }

    /** Sizes that have as many places as there are pieces, but for one in eight. */
    private void join(int run) {
        int n = x.told(4);
        int w = some(1, 8);
        int h = some(1, 8);
        if (n > 0 && below(8) != 0) {
            w = 1 + below(n);
            w = n % w == 0 ? w : n;
            h = n / w;
        }
        if (n == 8 && below(10) != 0) {
            return;
        }
        int turned = some(0, 1);
        int framed = some(0, 1);
        int p = some(-1, n);
        same(run, "joins(" + w + ", " + h + ", " + turned + ", " + framed + ", " + p + ")",
            x.joins(w, h, turned, framed, p), y.joins(w, h, turned, framed, p));
    }

    /** Promise 5: pictures of all sizes. */
    private static void pictures() {
        int[] seeds = {0, 1, 7, 4711, 123456, 999998, 999999};
        for (int from : seeds) {
            EdgeJoin x = new EdgeJoin();
            SlowModel y = new SlowModel();
            for (int w = 1; w <= 8; w++) {
                for (int h = 1; h <= 8 / w; h++) {
                    for (int turned = 0; turned < 2; turned++) {
                        String call = "makes(" + from + ", " + w + ", " + h + ", " + turned + ")";
                        Check.due(call, x.makes(from, w, h, turned), y.makes(from, w, h, turned));
                        Check.due("digest() after " + call, x.digest(), y.digest());
                    }
                }
            }
        }
    }

    /** Promise 14 at its greatest size. */
    private static void joinsOfEight() {
        RandomRunsTest r = new RandomRunsTest(1);
        for (int round = 0; round < 6; round++) {
            if (round < 3) {
                for (int i = 0; i < 8; i++) {
                    int cells = r.someCells();
                    if (r.x.told(4) == 8) {
                        r.x.drops(0);
                        r.y.drops(0);
                    }
                    Check.due("piece", r.x.piece(cells), r.y.piece(cells));
                }
            } else {
                r.x.makes(round, 4, 2, 0);
                r.y.makes(round, 4, 2, 0);
            }
            for (int w = 1; w <= 8; w *= 2) {
                for (int framed = 0; framed < 2; framed++) {
                    for (int p = -1; p < 8; p += 3) {
                        String call = "joins(" + w + ", " + 8 / w + ", 0, " + framed + ", " + p + ") in round " + round;
                        Check.due(call, r.x.joins(w, 8 / w, 0, framed, p), r.y.joins(w, 8 / w, 0, framed, p));
                    }
                }
            }
        }
    }
}
