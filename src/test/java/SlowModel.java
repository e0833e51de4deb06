import java.util.ArrayDeque;
import java.util.ArrayList;
import java.util.Arrays;
import java.util.Deque;
import java.util.HashSet;
import java.util.List;
import java.util.Set;
import java.util.regex.Matcher;
import java.util.regex.Pattern;

/**
 * The document once more, written another way: pieces are squares of numbers that are really turned, arrangements are
 * all tried, the text is read by regular expressions. The random runs compare EdgeJoin with it.
 */
final class SlowModel {
    private static final int NONE = -1, BAD = -2, NO = -3, FULL = -4;
    private static final String NUMBER = "[0-9]{1,6}";
    private static final String ORDER = "(?:p(?: *[0-3]){16}|t *N +N|a *N +N +N|x *N|m *N +N +N +N) *;"
        .replace("N", NUMBER);
    private static final Pattern TEXT = Pattern.compile(" *(?:" + ORDER + " *)+");

    /** A piece that lies turned in a place. */
    private record Lying(int piece, int t) {
        int code() {
            return 4 * piece + t;
        }
    }

    private record Saved(List<int[][]> pieces, int w, int h, Lying[] table) {
    }

    private List<int[][]> pieces = new ArrayList<>();
    private int w = 4;
    private int h = 2;
    private Lying[] table = new Lying[8];
    private final Deque<Saved> saved = new ArrayDeque<>();
    private final StringBuilder text = new StringBuilder();
    private final int[] counts = new int[3];

    private int fail(int error) {
        counts[-2 - error]++;
        return error;
    }

    private Saved copy() {
        return new Saved(new ArrayList<>(pieces), w, h, table.clone());
    }

    private void restore(Saved s) {
        pieces = new ArrayList<>(s.pieces());
        w = s.w();
        h = s.h();
        table = s.table().clone();
    }

    private void save(Saved s) {
        saved.addLast(s);
        if (saved.size() > 6) {
            saved.removeFirst();
        }
    }

    /** A change whose answer, if it is negative, is an error. */
    private int change(java.util.function.IntSupplier doIt) {
        Saved s = copy();
        int answer = doIt.getAsInt();
        if (answer < 0) {
            return fail(answer);
        }
        save(s);
        return answer;
    }

    private static int[][] square(int cells) {
        int[][] square = new int[4][4];
        for (int i = 0; i < 16; i++) {
            square[i / 4][i % 4] = Math.floorMod(cells >> 2 * i, 4);
        }
        return square;
    }

    private static int cells(int[][] square) {
        int cells = 0;
        for (int i = 15; i >= 0; i--) {
            cells = cells << 2 | square[i / 4][i % 4];
        }
        return cells;
    }

    private static int[][] turned(int[][] square, int t) {
        int[][] result = square;
        for (int i = 0; i < t; i++) {
            int[][] old = result;
            result = new int[4][4];
            for (int y = 0; y < 4; y++) {
                for (int x = 0; x < 4; x++) {
                    result[x][3 - y] = old[y][x];
                }
            }
        }
        return result;
    }

    private static int[] side(int[][] q, int s) {
        return switch (s) {
            case 0 -> new int[] {q[0][0], q[0][1], q[0][2], q[0][3]};
            case 1 -> new int[] {q[0][3], q[1][3], q[2][3], q[3][3]};
            case 2 -> new int[] {q[3][3], q[3][2], q[3][1], q[3][0]};
            default -> new int[] {q[3][0], q[2][0], q[1][0], q[0][0]};
        };
    }

    private static int difference(int[] a, int[] b) {
        int sum = 0;
        for (int k = 0; k < 4; k++) {
            sum += Math.abs(a[k] - b[3 - k]);
        }
        return sum;
    }

    private static boolean flat(int[] side) {
        return Arrays.stream(side).allMatch(c -> c == 0);
    }

    private boolean noPiece(int p) {
        return p < 0 || p >= pieces.size();
    }

    private boolean noPlace(int p) {
        return p < 0 || p >= w * h;
    }

    private static boolean out(int v, int low, int high) {
        return v < low || v > high;
    }

    private static boolean noSize(int w, int h) {
        return out(w, 1, 8) || out(h, 1, 8) || w * h > 8;
    }

    private int doPiece(int[][] square) {
        if (pieces.size() == 8) {
            return FULL;
        }
        pieces.add(square);
        return pieces.size() - 1;
    }

    private int doMakes(int seed, int mw, int mh, int turn) {
        if (out(seed, 0, 999999) || noSize(mw, mh) || out(turn, 0, 1)) {
            return BAD;
        }
        long[] s = {seed};
        java.util.function.IntSupplier r = () -> {
            s[0] = (1103515245L * s[0] + 12345L) % 2147483648L;
            return (int) (s[0] / 65536);
        };
        int[][] points = new int[3 * mh + 1][3 * mw + 1];
        for (int y = 1; y < 3 * mh; y++) {
            for (int x = 1; x < 3 * mw; x++) {
                points[y][x] = r.getAsInt() % 3 + 1;
            }
        }
        int[][][] cut = new int[mw * mh][4][4];
        for (int p = 0; p < mw * mh; p++) {
            for (int y = 0; y < 4; y++) {
                System.arraycopy(points[3 * (p / mw) + y], 3 * (p % mw), cut[p][y], 0, 4);
            }
        }
        for (int i = mw * mh - 1; i > 0; i--) {
            int j = r.getAsInt() % (i + 1);
            int[][] piece = cut[i];
            cut[i] = cut[j];
            cut[j] = piece;
        }
        pieces = new ArrayList<>();
        for (int[][] piece : cut) {
            pieces.add(turn == 1 ? turned(piece, r.getAsInt() % 4) : piece);
        }
        doTable(mw, mh);
        return pieces.size();
    }

    private int doTable(int tw, int th) {
        if (noSize(tw, th)) {
            return BAD;
        }
        int on = onTable();
        w = tw;
        h = th;
        table = new Lying[tw * th];
        return on;
    }

    private int onTable() {
        return (int) Arrays.stream(table).filter(l -> l != null).count();
    }

    private int placeOf(int k) {
        for (int p = 0; p < w * h; p++) {
            if (table[p] != null && table[p].piece() == k) {
                return p;
            }
        }
        return NONE;
    }

    private int doPuts(int p, int k, int t) {
        if (noPlace(p) || noPiece(k) || out(t, 0, 3)) {
            return BAD;
        }
        if (table[p] != null || placeOf(k) != NONE) {
            return NO;
        }
        int old = cost();
        table[p] = new Lying(k, t);
        return cost() - old;
    }

    private int doTakes(int p) {
        if (noPlace(p)) {
            return BAD;
        }
        if (table[p] == null) {
            return NO;
        }
        int k = table[p].piece();
        table[p] = null;
        return k;
    }

    private int[] lyingSide(Lying l, int s) {
        return side(turned(pieces.get(l.piece()), l.t()), s);
    }

    private int costOf(Lying[] places, int pw, int ph) {
        int sum = 0;
        for (int y = 0; y < ph; y++) {
            for (int x = 0; x < pw; x++) {
                Lying here = places[pw * y + x];
                Lying right = x + 1 < pw ? places[pw * y + x + 1] : null;
                Lying below = y + 1 < ph ? places[pw * (y + 1) + x] : null;
                if (here != null && right != null) {
                    sum += difference(lyingSide(here, 1), lyingSide(right, 3));
                }
                if (here != null && below != null) {
                    sum += difference(lyingSide(here, 2), lyingSide(below, 0));
                }
            }
        }
        return sum;
    }

    int piece(int cells) {
        return change(() -> doPiece(square(cells)));
    }

    int turns(int p, int t) {
        if (noPiece(p) || out(t, 0, 3)) {
            return fail(BAD);
        }
        save(copy());
        pieces.set(p, turned(pieces.get(p), t));
        return cells(pieces.get(p));
    }

    int drops(int p) {
        return change(() -> {
            if (noPiece(p)) {
                return BAD;
            }
            pieces.remove(p);
            for (int q = 0; q < w * h; q++) {
                Lying l = table[q];
                if (l != null && l.piece() >= p) {
                    table[q] = l.piece() == p ? null : new Lying(l.piece() - 1, l.t());
                }
            }
            return pieces.size();
        });
    }

    int makes(int seed, int mw, int mh, int turn) {
        return change(() -> doMakes(seed, mw, mh, turn));
    }

    int cell(int p, int x, int y) {
        return noPiece(p) || out(x, 0, 3) || out(y, 0, 3) ? fail(BAD) : pieces.get(p)[y][x];
    }

    int of(int p, int what) {
        if (noPiece(p) || out(what, 0, 4)) {
            return fail(BAD);
        }
        boolean[] flat = new boolean[4];
        int mask = 0;
        for (int s = 0; s < 4; s++) {
            flat[s] = flat(side(pieces.get(p), s));
            mask += flat[s] ? 1 << s : 0;
        }
        int place = placeOf(p);
        return switch (what) {
            case 0 -> (flat[0] || flat[2]) && (flat[1] || flat[3]) ? 0 : mask > 0 ? 1 : 2;
            case 1 -> mask;
            case 2 -> groupOf(p).stream().min(Integer::compare).get();
            case 3 -> place;
            default -> place == NONE ? NONE : table[place].t();
        };
    }

    int edge(int p, int s) {
        if (noPiece(p) || out(s, 0, 3)) {
            return fail(BAD);
        }
        StringBuilder digits = new StringBuilder();
        for (int c : side(pieces.get(p), s)) {
            digits.append(c);
        }
        return Integer.parseInt(digits.toString(), 4);
    }

    int unlike(int p, int s, int q, int t) {
        if (noPiece(p) || noPiece(q) || out(s, 0, 3) || out(t, 0, 3) || p == q) {
            return fail(BAD);
        }
        return difference(side(pieces.get(p), s), side(pieces.get(q), t));
    }

    private int mateOf(int p, int s) {
        int best = NONE;
        int least = 99;
        for (int q = 0; q < pieces.size(); q++) {
            for (int t = 0; t < 4; t++) {
                int[] other = side(pieces.get(q), t);
                int d = difference(side(pieces.get(p), s), other);
                if (q != p && !flat(other) && d < least) {
                    least = d;
                    best = 4 * q + t;
                }
            }
        }
        return best;
    }

    int mate(int p, int s) {
        if (noPiece(p) || out(s, 0, 3)) {
            return fail(BAD);
        }
        return flat(side(pieces.get(p), s)) ? fail(NO) : mateOf(p, s);
    }

    private List<int[]> allPairs() {
        int[] mates = new int[4 * pieces.size()];
        for (int a = 0; a < mates.length; a++) {
            mates[a] = flat(side(pieces.get(a / 4), a % 4)) ? NONE : mateOf(a / 4, a % 4);
        }
        List<int[]> list = new ArrayList<>();
        for (int a = 0; a < mates.length; a++) {
            for (int b = a + 1; b < mates.length; b++) {
                if (mates[a] == b && mates[b] == a) {
                    list.add(new int[] {a, b});
                }
            }
        }
        return list;
    }

    int pairs(int i) {
        if (i < -1) {
            return fail(BAD);
        }
        List<int[]> list = allPairs();
        if (i == -1) {
            return list.size();
        }
        return i < list.size() ? 32 * list.get(i)[0] + list.get(i)[1] : -5;
    }

    private Set<Integer> groupOf(int p) {
        Set<Integer> group = new HashSet<>(List.of(p));
        List<int[]> list = allPairs();
        boolean grew = true;
        while (grew) {
            grew = false;
            for (int[] pair : list) {
                if (group.contains(pair[0] / 4) || group.contains(pair[1] / 4)) {
                    grew |= group.add(pair[0] / 4);
                    grew |= group.add(pair[1] / 4);
                }
            }
        }
        return group;
    }

    int groups() {
        Set<Set<Integer>> all = new HashSet<>();
        for (int p = 0; p < pieces.size(); p++) {
            all.add(groupOf(p));
        }
        return all.size();
    }

    int edges(int what) {
        if (out(what, 0, 1)) {
            return fail(BAD);
        }
        Set<String> all = new HashSet<>();
        for (int[][] piece : pieces) {
            for (int s = 0; s < 4; s++) {
                int[] e = side(piece, s);
                String forth = "" + e[0] + e[1] + e[2] + e[3];
                String back = "" + e[3] + e[2] + e[1] + e[0];
                all.add(what == 1 && back.compareTo(forth) < 0 ? back : forth);
            }
        }
        return all.size();
    }

    /** The cost and the contents of the best arrangement; null if there is none. */
    private int[] bestArrangement(int jw, int jh, int turned, int framed) {
        int n = pieces.size();
        int[][][][] sides = new int[n][4][4][];
        for (int k = 0; k < n; k++) {
            for (int t = 0; t < 4; t++) {
                for (int s = 0; s < 4; s++) {
                    sides[k][t][s] = side(turned(pieces.get(k), t), s);
                }
            }
        }
        int[][] best = {null};
        tryAll(sides, new int[] {jw, jh, turned, framed}, new int[n], 0, best);
        return best[0];
    }

    private static void tryAll(int[][][][] sides, int[] how, int[] contents, int p, int[][] best) {
        if (p == contents.length) {
            int cost = arrangementCost(sides, how, contents);
            if (cost >= 0 && (best[0] == null || cost < best[0][0])) {
                best[0] = new int[p + 1];
                best[0][0] = cost;
                System.arraycopy(contents, 0, best[0], 1, p);
            }
            return;
        }
        for (int c = 0; c < 4 * contents.length; c += how[2] == 1 ? 1 : 4) {
            boolean fresh = true;
            for (int q = 0; q < p; q++) {
                fresh &= contents[q] / 4 != c / 4;
            }
            if (fresh) {
                contents[p] = c;
                tryAll(sides, how, contents, p + 1, best);
            }
        }
    }

    /** -1 if the arrangement does not fit the frame. */
    private static int arrangementCost(int[][][][] sides, int[] how, int[] contents) {
        int cost = 0;
        for (int p = 0; p < contents.length; p++) {
            int x = p % how[0];
            int y = p / how[0];
            int[][] here = sides[contents[p] / 4][contents[p] % 4];
            boolean[] rim = {y == 0, x == how[0] - 1, y == how[1] - 1, x == 0};
            for (int s = 0; s < 4; s++) {
                if (how[3] == 1 && rim[s] != flat(here[s])) {
                    return -1;
                }
            }
            if (!rim[1]) {
                cost += difference(here[1], sides[contents[p + 1] / 4][contents[p + 1] % 4][3]);
            }
            if (!rim[2]) {
                cost += difference(here[2], sides[contents[p + how[0]] / 4][contents[p + how[0]] % 4][0]);
            }
        }
        return cost;
    }

    int joins(int jw, int jh, int turned, int framed, int p) {
        if (out(jw, 1, 8) || out(jh, 1, 8) || out(turned, 0, 1) || out(framed, 0, 1) || out(p, -1, jw * jh - 1)) {
            return fail(BAD);
        }
        if (jw * jh != pieces.size() || turned == 1 && pieces.size() > 4) {
            return fail(NO);
        }
        int[] best = bestArrangement(jw, jh, turned, framed);
        return best == null ? -5 : best[p + 1];
    }

    int table(int tw, int th) {
        return change(() -> doTable(tw, th));
    }

    int puts(int p, int k, int t) {
        return change(() -> doPuts(p, k, t));
    }

    int takes(int p) {
        return change(() -> doTakes(p));
    }

    int at(int p) {
        if (noPlace(p)) {
            return fail(BAD);
        }
        return table[p] == null ? NONE : table[p].code();
    }

    int cost() {
        return costOf(table, w, h);
    }

    private boolean mayGrow(int p) {
        if (table[p] != null) {
            return false;
        }
        boolean beside = onTable() == 0;
        for (int q = 0; q < w * h; q++) {
            int steps = Math.abs(q % w - p % w) + Math.abs(q / w - p / w);
            beside |= steps == 1 && table[q] != null;
        }
        return beside;
    }

    int next(int turned, int what) {
        if (out(turned, 0, 1) || out(what, 0, 2)) {
            return fail(BAD);
        }
        int[] best = null;
        for (int p = 0; p < w * h; p++) {
            for (int k = 0; k < pieces.size(); k++) {
                for (int t = 0; t <= 3 * turned; t++) {
                    if (mayGrow(p) && placeOf(k) == NONE) {
                        Lying[] then = table.clone();
                        then[p] = new Lying(k, t);
                        int increase = costOf(then, w, h) - cost();
                        if (best == null || increase < best[2]) {
                            best = new int[] {p, 4 * k + t, increase};
                        }
                    }
                }
            }
        }
        return best == null ? NONE : best[what];
    }

    int type(int c) {
        if (out(c, 0, 127)) {
            return fail(BAD);
        }
        if (text.length() == 150) {
            return fail(FULL);
        }
        text.append((char) c);
        return text.length();
    }

    int clear() {
        int length = text.length();
        text.setLength(0);
        return length;
    }

    /** The length of the longest beginning with which a right text can begin. */
    private int viable() {
        for (int n = 1; n <= text.length(); n++) {
            Matcher m = TEXT.matcher(text.substring(0, n));
            if (!m.matches() && !m.hitEnd()) {
                return n - 1;
            }
        }
        return text.length();
    }

    int reads() {
        if (!TEXT.matcher(text).matches()) {
            return -10 - viable();
        }
        Saved s = copy();
        int k = 0;
        String[] orders = text.toString().trim().split(";");
        for (String order : orders) {
            if (obey(order.trim()) < 0) {
                restore(s);
                return -1000 - k;
            }
            k++;
        }
        save(s);
        return k;
    }

    private int obey(String order) {
        String rest = order.substring(1).trim();
        if (order.charAt(0) == 'p') {
            String digits = rest.replace(" ", "");
            int[][] square = new int[4][4];
            for (int i = 0; i < 16; i++) {
                square[i / 4][i % 4] = digits.charAt(i) - '0';
            }
            return doPiece(square);
        }
        int[] n = Arrays.stream(rest.split(" +")).mapToInt(Integer::parseInt).toArray();
        return switch (order.charAt(0)) {
            case 't' -> doTable(n[0], n[1]);
            case 'a' -> doPuts(n[0], n[1], n[2]);
            case 'x' -> doTakes(n[0]);
            default -> doMakes(n[0], n[1], n[2], n[3]);
        };
    }

    int back() {
        if (saved.isEmpty()) {
            return fail(NO);
        }
        restore(saved.removeLast());
        return saved.size();
    }

    int told(int what) {
        int[] all = {counts[0], counts[1], counts[2], text.length(), pieces.size(), w, h, saved.size()};
        return out(what, 0, 7) ? fail(BAD) : all[what];
    }

    long digest() {
        List<Integer> numbers = new ArrayList<>();
        for (int what = 0; what < 8; what++) {
            numbers.add(told(what));
        }
        for (int p = 0; p < pieces.size(); p++) {
            numbers.add(cells(pieces.get(p)));
            for (int what = 0; what < 5; what++) {
                numbers.add(of(p, what));
            }
        }
        for (int p = 0; p < w * h; p++) {
            numbers.add(at(p));
        }
        numbers.addAll(List.of(cost(), allPairs().size(), groups(), edges(0), edges(1)));
        long hash = 2389;
        for (int v : numbers) {
            hash = 31 * hash + v;
        }
        return hash;
    }
}
