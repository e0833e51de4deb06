/**
 * A solver for square jigsaw pictures. The document (../shared/DOC.md) says what each call answers.
 *
 * <p>Everything a call needs is made by the constructor, because all calls of a run share one room for objects.
 */
public final class EdgeJoin {
    public static final int NONE = -1, BAD = -2, NO = -3, FULL = -4;

    private static final int NOTHING_THERE = -5;
    private static final int TEXT_ERROR = -10;
    private static final int ORDER_ERROR = -1000;

    private static final int MOST_PIECES = 8;
    private static final int MOST_SIDES = 4 * MOST_PIECES;
    private static final int MOST_PLACES = 8;
    private static final int MOST_TURNED_PIECES = 4;
    private static final int MOST_STATES = 6;
    private static final int MOST_BYTES = 150;
    /** The shortest order has three bytes: x, a digit and the semicolon. */
    private static final int MOST_ORDERS = MOST_BYTES / 3;
    private static final int MOST_NUMBERS = 4;
    private static final int MOST_DIGITS = 6;
    private static final int MOST_SEED = 999999;
    /** A picture of 8 by 1 pieces has the most points, 25 by 4. */
    private static final int MOST_POINTS = 100;
    private static final int CELLS = 16;
    /** Ten pairs of neighbors with a difference of 12 cost 120, so this is above any cost. */
    private static final int ABOVE_ANY_COST = 1000;

    private static final int TOP = 0;
    private static final int RIGHT = 1;
    private static final int BOTTOM = 2;

    /** The cells 4 * y + x along the sides 0 to 3, four for each, clockwise. */
    private static final int[] RIM = {0, 1, 2, 3, 3, 7, 11, 15, 15, 14, 13, 12, 12, 8, 4, 0};

    private final State now = new State();
    /** The state before the change that is being tried. */
    private final State before = new State();
    private final History history = new History();
    private final Sides sides = new Sides();
    private final Arranger arranger = new Arranger();
    private final Maker maker = new Maker();
    private final Text text = new Text();
    private int badCount = 0;
    private int noCount = 0;
    private int fullCount = 0;

    public EdgeJoin() {
        // The fields begin as the document wants them.
    }

    public int piece(int cells) {
        before.copyFrom(now);
        return endChange(now.addPiece(cells));
    }

    public int turns(int p, int t) {
        if (!now.hasPiece(p) || !isWithin(t, 4)) {
            return fail(BAD);
        }
        // Not endChange(): the new cells may look like an error code.
        history.keep(now);
        now.cells[p] = turnedCells(now.cells[p], t);
        return now.cells[p];
    }

    public int drops(int p) {
        before.copyFrom(now);
        return endChange(now.dropPiece(p));
    }

    public int makes(int seed, int w, int h, int turned) {
        before.copyFrom(now);
        return endChange(maker.makePieces(now, seed, w, h, turned));
    }

    public int cell(int p, int x, int y) {
        if (!now.hasPiece(p) || !isWithin(x, 4) || !isWithin(y, 4)) {
            return fail(BAD);
        }
        return colorIn(now.cells[p], 4 * y + x);
    }

    public int of(int p, int what) {
        if (!now.hasPiece(p) || !isWithin(what, 5)) {
            return fail(BAD);
        }
        switch (what) {
            case 0:
                return freshSides().sortOf(p);
            case 1:
                return freshSides().flatMask(p);
            case 2:
                return freshSides().groupOf[p];
            case 3:
                return now.table.placeOf(p);
            default:
                return now.table.turnOf(p);
        }
    }

    public int edge(int p, int s) {
        if (!now.hasPiece(p) || !isWithin(s, 4)) {
            return fail(BAD);
        }
        return freshSides().colorsOf[4 * p + s];
    }

    public int unlike(int p, int s, int q, int t) {
        if (!now.hasPiece(p) || !isWithin(s, 4) || !now.hasPiece(q) || !isWithin(t, 4) || p == q) {
            return fail(BAD);
        }
        return freshSides().differences[4 * p + s][4 * q + t];
    }

    public int mate(int p, int s) {
        if (!now.hasPiece(p) || !isWithin(s, 4)) {
            return fail(BAD);
        }
        int side = 4 * p + s;
        if (freshSides().isFlat(side)) {
            return fail(NO);
        }
        return freshSides().mateOf[side];
    }

    public int pairs(int i) {
        if (i < NONE) {
            return fail(BAD);
        }
        return i == NONE ? freshSides().countPairs() : freshSides().findPair(i);
    }

    public int groups() {
        return freshSides().countGroups();
    }

    public int edges(int what) {
        if (!isFlag(what)) {
            return fail(BAD);
        }
        return freshSides().countEdges(what == 1);
    }

    public int joins(int w, int h, int turned, int framed, int p) {
        if (!isLength(w) || !isLength(h) || !isFlag(turned) || !isFlag(framed)) {
            return fail(BAD);
        }
        if (p != NONE && !isWithin(p, w * h)) {
            return fail(BAD);
        }
        if (w * h != now.count || turned == 1 && now.count > MOST_TURNED_PIECES) {
            return fail(NO);
        }
        if (!arranger.findBest(freshSides(), w, h, turned == 1, framed == 1)) {
            return NOTHING_THERE;
        }
        return p == NONE ? arranger.bestCost : arranger.best.contents[p];
    }

    public int table(int w, int h) {
        before.copyFrom(now);
        return endChange(now.layTable(w, h));
    }

    public int puts(int p, int k, int t) {
        before.copyFrom(now);
        return endChange(putOnTable(p, k, t));
    }

    public int takes(int p) {
        before.copyFrom(now);
        return endChange(now.takeFromTable(p));
    }

    public int at(int p) {
        if (!now.table.hasPlace(p)) {
            return fail(BAD);
        }
        return now.table.contents[p];
    }

    public int cost() {
        return freshSides().wholeCost(now.table);
    }

    public int next(int turned, int what) {
        if (!isFlag(turned) || !isWithin(what, 3)) {
            return fail(BAD);
        }
        sides.follow(now);
        int bestIncrease = ABOVE_ANY_COST;
        int bestPlace = NONE;
        int bestContent = NONE;
        for (int p = 0; p < now.table.size(); p++) {
            int content = now.table.canGrowAt(p) ? findContentFor(p, turned == 1) : NONE;
            int increase = content == NONE ? ABOVE_ANY_COST : sides.addedCost(now.table, p, content);
            if (increase < bestIncrease) {
                bestIncrease = increase;
                bestPlace = p;
                bestContent = content;
            }
        }
        if (bestPlace == NONE || what == 0) {
            return bestPlace;
        }
        return what == 1 ? bestContent : bestIncrease;
    }

    public int type(int c) {
        if (!isWithin(c, 128)) {
            return fail(BAD);
        }
        if (text.length >= MOST_BYTES) {
            return fail(FULL);
        }
        text.append(c);
        return text.length;
    }

    public int clear() {
        int length = text.length;
        text.length = 0;
        return length;
    }

    public int reads() {
        int wrong = text.parseOrders();
        if (wrong != NONE) {
            return TEXT_ERROR - wrong;
        }
        before.copyFrom(now);
        for (int k = 0; k < text.orderCount; k++) {
            if (obey(k) < 0) {
                now.copyFrom(before);
                return ORDER_ERROR - k;
            }
        }
        history.keep(before);
        return text.orderCount;
    }

    public int back() {
        if (history.size == 0) {
            return fail(NO);
        }
        history.restore(now);
        return history.size;
    }

    public int told(int what) {
        switch (what) {
            case 0:
                return badCount;
            case 1:
                return noCount;
            case 2:
                return fullCount;
            case 3:
                return text.length;
            case 4:
                return now.count;
            case 5:
                return now.table.w;
            case 6:
                return now.table.h;
            case 7:
                return history.size;
            default:
                return fail(BAD);
        }
    }

    public long digest() {
        long h = 2389;
        for (int what = 0; what < 8; what++) {
            h = 31 * h + told(what);
        }
        for (int p = 0; p < now.count; p++) {
            h = 31 * h + now.cells[p];
            for (int what = 0; what < 5; what++) {
                h = 31 * h + of(p, what);
            }
        }
        for (int p = 0; p < now.table.size(); p++) {
            h = 31 * h + at(p);
        }
        h = 31 * h + cost();
        h = 31 * h + pairs(NONE);
        h = 31 * h + groups();
        h = 31 * h + edges(0);
        return 31 * h + edges(1);
    }

    /** Counts an error where it is returned to the caller, and nowhere else. */
    private int fail(int error) {
        if (error == BAD) {
            badCount++;
        } else if (error == NO) {
            noCount++;
        } else if (error == FULL) {
            fullCount++;
        }
        return error;
    }

    /** Ends a change that was tried after 'before' had been set; its only negative answers are errors. */
    private int endChange(int answer) {
        if (answer < 0) {
            return fail(answer);
        }
        history.keep(before);
        return answer;
    }

    private Sides freshSides() {
        sides.follow(now);
        return sides;
    }

    private int putOnTable(int p, int k, int t) {
        if (!now.table.hasPlace(p) || !now.hasPiece(k) || !isWithin(t, 4)) {
            return BAD;
        }
        if (now.table.contents[p] != NONE || now.table.placeOf(k) != NONE) {
            return NO;
        }
        int content = 4 * k + t;
        int increase = freshSides().addedCost(now.table, p, content);
        now.table.contents[p] = content;
        return increase;
    }

    /** The cheapest free piece with its turn for a place, or NONE; needs sides that are up to date. */
    private int findContentFor(int p, boolean turned) {
        int bestIncrease = ABOVE_ANY_COST;
        int best = NONE;
        for (int content = 0; content < 4 * now.count; content += turned ? 1 : 4) {
            if (now.table.placeOf(content / 4) == NONE) {
                int increase = sides.addedCost(now.table, p, content);
                if (increase < bestIncrease) {
                    bestIncrease = increase;
                    best = content;
                }
            }
        }
        return best;
    }

    /** Carries out order k without saving a state and without counting an error. */
    private int obey(int k) {
        int[] numbers = text.numbers[k];
        switch (text.letters[k]) {
            case 'p':
                return now.addPiece(numbers[0]);
            case 't':
                return now.layTable(numbers[0], numbers[1]);
            case 'a':
                return putOnTable(numbers[0], numbers[1], numbers[2]);
            case 'x':
                return now.takeFromTable(numbers[0]);
            default:
                return maker.makePieces(now, numbers[0], numbers[1], numbers[2], numbers[3]);
        }
    }

    private static boolean isWithin(int value, int bound) {
        return value >= 0 && value < bound;
    }

    private static boolean isFlag(int value) {
        return value == 0 || value == 1;
    }

    private static boolean isLength(int value) {
        return value >= 1 && value <= 8;
    }

    private static boolean isTableSize(int w, int h) {
        return isLength(w) && isLength(h) && w * h <= MOST_PLACES;
    }

    private static int colorIn(int cells, int index) {
        return (cells >> (2 * index)) & 3;
    }

    private static int turnedCells(int cells, int t) {
        int turned = cells;
        for (int i = 0; i < t; i++) {
            turned = turnedOnce(turned);
        }
        return turned;
    }

    private static int turnedOnce(int cells) {
        int turned = 0;
        for (int y = 0; y < 4; y++) {
            for (int x = 0; x < 4; x++) {
                turned |= colorIn(cells, 4 * y + x) << (2 * (4 * x + 3 - y));
            }
        }
        return turned;
    }

    /** The side that looks towards d if a piece lies there turned; a content is 4 * piece + t. */
    private static int sideTowards(int content, int d) {
        int t = content % 4;
        return content - t + ((d - t) & 3);
    }

    /** Places in rows, each with 4 * piece + t or NONE. */
    private static final class Rectangle {
        int w = 4;
        int h = 2;
        final int[] contents = new int[MOST_PLACES];

        Rectangle() {
            empty();
        }

        private void empty() {
            for (int p = 0; p < MOST_PLACES; p++) {
                contents[p] = NONE;
            }
        }

        /** Needs a size that isTableSize() accepts. */
        void reset(int newW, int newH) {
            w = newW;
            h = newH;
            empty();
        }

        void copyFrom(Rectangle other) {
            w = other.w;
            h = other.h;
            System.arraycopy(other.contents, 0, contents, 0, MOST_PLACES);
        }

        int size() {
            return w * h;
        }

        boolean hasPlace(int p) {
            return p >= 0 && p < size();
        }

        /** The place next to p in the direction of side d, or NONE beyond the rim. */
        int neighborOf(int p, int d) {
            if (d == TOP) {
                return p >= w ? p - w : NONE;
            }
            if (d == BOTTOM) {
                return p + w < size() ? p + w : NONE;
            }
            int column = w > 0 ? p % w : 0;
            if (d == RIGHT) {
                return column < w - 1 ? p + 1 : NONE;
            }
            return column > 0 ? p - 1 : NONE;
        }

        int placeOf(int piece) {
            for (int p = 0; p < size(); p++) {
                if (contents[p] != NONE && contents[p] / 4 == piece) {
                    return p;
                }
            }
            return NONE;
        }

        int turnOf(int piece) {
            int p = placeOf(piece);
            return p == NONE ? NONE : contents[p] % 4;
        }

        int countPieces() {
            int pieces = 0;
            for (int p = 0; p < size(); p++) {
                if (contents[p] != NONE) {
                    pieces++;
                }
            }
            return pieces;
        }

        /** Whether p is an empty place beside a piece, or any empty place while there is no piece. */
        boolean canGrowAt(int p) {
            if (contents[p] != NONE) {
                return false;
            }
            for (int d = 0; d < 4; d++) {
                int q = neighborOf(p, d);
                if (q != NONE && contents[q] != NONE) {
                    return true;
                }
            }
            return countPieces() == 0;
        }

        void removePiece(int piece) {
            for (int p = 0; p < size(); p++) {
                if (contents[p] != NONE && contents[p] / 4 == piece) {
                    contents[p] = NONE;
                } else if (contents[p] != NONE && contents[p] / 4 > piece) {
                    contents[p] -= 4;
                }
            }
        }
    }

    /** The pieces and the table: all that an undo brings back. */
    private static final class State {
        int count = 0;
        final int[] cells = new int[MOST_PIECES];
        final Rectangle table = new Rectangle();

        void copyFrom(State other) {
            count = other.count;
            System.arraycopy(other.cells, 0, cells, 0, MOST_PIECES);
            table.copyFrom(other.table);
        }

        boolean hasPiece(int p) {
            return p >= 0 && p < count;
        }

        int addPiece(int newCells) {
            if (count >= MOST_PIECES) {
                return FULL;
            }
            cells[count] = newCells;
            count++;
            return count - 1;
        }

        int dropPiece(int p) {
            if (!hasPiece(p)) {
                return BAD;
            }
            count--;
            for (int i = p; i < count; i++) {
                cells[i] = cells[i + 1];
            }
            table.removePiece(p);
            return count;
        }

        int layTable(int w, int h) {
            if (!isTableSize(w, h)) {
                return BAD;
            }
            int pieces = table.countPieces();
            table.reset(w, h);
            return pieces;
        }

        int takeFromTable(int p) {
            if (!table.hasPlace(p)) {
                return BAD;
            }
            if (table.contents[p] == NONE) {
                return NO;
            }
            int piece = table.contents[p] / 4;
            table.contents[p] = NONE;
            return piece;
        }
    }

    /** The latest states, in a ring, so that keeping one makes no object. */
    private static final class History {
        private final State[] kept = new State[MOST_STATES];
        private int oldest = 0;
        int size = 0;

        History() {
            for (int i = 0; i < MOST_STATES; i++) {
                kept[i] = new State();
            }
        }

        void keep(State state) {
            kept[(oldest + size) % MOST_STATES].copyFrom(state);
            if (size < MOST_STATES) {
                size++;
            } else {
                oldest = (oldest + 1) % MOST_STATES;
            }
        }

        void restore(State state) {
            if (size > 0) {
                size--;
                state.copyFrom(kept[(oldest + size) % MOST_STATES]);
            }
        }
    }

    /** What follows from the cells of the pieces alone. A side is written as 4 * piece + side. */
    private static final class Sides {
        private int count = 0;
        private final int[] cells = new int[MOST_PIECES];
        final int[] colorsOf = new int[MOST_SIDES];
        final int[][] differences = new int[MOST_SIDES][MOST_SIDES];
        /** NONE for a flat side, too. */
        final int[] mateOf = new int[MOST_SIDES];
        /** The lowest piece of the group of each piece. */
        final int[] groupOf = new int[MOST_PIECES];

        /** Works all out again, unless the pieces are still the same. */
        void follow(State state) {
            if (isUpToDate(state)) {
                return;
            }
            count = state.count;
            System.arraycopy(state.cells, 0, cells, 0, MOST_PIECES);
            readColors();
            compareSides();
            for (int side = 0; side < 4 * count; side++) {
                mateOf[side] = findMate(side);
            }
            joinGroups();
        }

        private boolean isUpToDate(State state) {
            if (count != state.count) {
                return false;
            }
            for (int p = 0; p < count; p++) {
                if (cells[p] != state.cells[p]) {
                    return false;
                }
            }
            return true;
        }

        private void readColors() {
            for (int side = 0; side < 4 * count; side++) {
                int colors = 0;
                for (int k = 0; k < 4; k++) {
                    colors = 4 * colors + colorIn(cells[side / 4], RIM[4 * (side % 4) + k]);
                }
                colorsOf[side] = colors;
            }
        }

        private void compareSides() {
            for (int a = 0; a < 4 * count; a++) {
                for (int b = 0; b < a; b++) {
                    int difference = differenceOf(colorsOf[a], colorsOf[b]);
                    differences[a][b] = difference;
                    differences[b][a] = difference;
                }
            }
        }

        private static int differenceOf(int colors, int others) {
            int sum = 0;
            for (int k = 0; k < 4; k++) {
                sum += Math.abs(colorIn(colors, 3 - k) - colorIn(others, k));
            }
            return sum;
        }

        private int findMate(int side) {
            int best = NONE;
            int bestDifference = ABOVE_ANY_COST;
            for (int other = 0; other < 4 * count && !isFlat(side); other++) {
                boolean canMatch = other / 4 != side / 4 && !isFlat(other);
                if (canMatch && differences[side][other] < bestDifference) {
                    best = other;
                    bestDifference = differences[side][other];
                }
            }
            return best;
        }

        private void joinGroups() {
            for (int p = 0; p < count; p++) {
                groupOf[p] = p;
            }
            for (int side = 0; side < 4 * count; side++) {
                if (isLowerOfPair(side)) {
                    mergeGroups(groupOf[side / 4], groupOf[mateOf[side] / 4]);
                }
            }
        }

        private void mergeGroups(int a, int b) {
            for (int p = 0; p < count; p++) {
                if (groupOf[p] == a || groupOf[p] == b) {
                    groupOf[p] = Math.min(a, b);
                }
            }
        }

        boolean isFlat(int side) {
            return colorsOf[side] == 0;
        }

        int flatMask(int p) {
            int mask = 0;
            for (int s = 0; s < 4; s++) {
                if (isFlat(4 * p + s)) {
                    mask |= 1 << s;
                }
            }
            return mask;
        }

        int sortOf(int p) {
            int mask = flatMask(p);
            for (int s = 0; s < 4; s++) {
                int neighbors = 1 << s | 1 << ((s + 1) % 4);
                if ((mask & neighbors) == neighbors) {
                    return 0;
                }
            }
            return mask != 0 ? 1 : 2;
        }

        private boolean isLowerOfPair(int side) {
            int mate = mateOf[side];
            return mate > side && mateOf[mate] == side;
        }

        int countPairs() {
            int pairCount = 0;
            for (int side = 0; side < 4 * count; side++) {
                if (isLowerOfPair(side)) {
                    pairCount++;
                }
            }
            return pairCount;
        }

        int findPair(int index) {
            int passed = 0;
            for (int side = 0; side < 4 * count; side++) {
                if (isLowerOfPair(side)) {
                    if (passed == index) {
                        return 32 * side + mateOf[side];
                    }
                    passed++;
                }
            }
            return NOTHING_THERE;
        }

        int countGroups() {
            int groupCount = 0;
            for (int p = 0; p < count; p++) {
                if (groupOf[p] == p) {
                    groupCount++;
                }
            }
            return groupCount;
        }

        int countEdges(boolean bothDirections) {
            int different = 0;
            for (int side = 0; side < 4 * count; side++) {
                if (!standsBefore(side, bothDirections)) {
                    different++;
                }
            }
            return different;
        }

        private boolean standsBefore(int side, boolean bothDirections) {
            int colors = colorsOf[side];
            int reversed = reversedColors(colors);
            for (int other = 0; other < side; other++) {
                if (colorsOf[other] == colors || bothDirections && colorsOf[other] == reversed) {
                    return true;
                }
            }
            return false;
        }

        private static int reversedColors(int colors) {
            int reversed = 0;
            for (int k = 0; k < 4; k++) {
                reversed = 4 * reversed + colorIn(colors, k);
            }
            return reversed;
        }

        /** The difference of the sides that touch if the other content lies next to this one, towards d. */
        private int touchingDifference(int content, int d, int other) {
            return differences[sideTowards(content, d)][sideTowards(other, (d + 2) % 4)];
        }

        /** What the cost grows by if the content comes to place p. */
        int addedCost(Rectangle rectangle, int p, int content) {
            int sum = 0;
            for (int d = 0; d < 4; d++) {
                int q = rectangle.neighborOf(p, d);
                if (q != NONE && rectangle.contents[q] != NONE) {
                    sum += touchingDifference(content, d, rectangle.contents[q]);
                }
            }
            return sum;
        }

        int wholeCost(Rectangle rectangle) {
            int twice = 0;
            for (int p = 0; p < rectangle.size(); p++) {
                if (rectangle.contents[p] != NONE) {
                    twice += addedCost(rectangle, p, rectangle.contents[p]);
                }
            }
            // Each pair of neighbors has been met from both of its places.
            return twice / 2;
        }
    }

    /** Searches the arrangements in lexicographic order, so that the first of the best ones stays. */
    private static final class Arranger {
        private int turnCount = 1;
        private boolean framed = false;
        private final boolean[] used = new boolean[MOST_PIECES];
        private final Rectangle trial = new Rectangle();
        final Rectangle best = new Rectangle();
        int bestCost = ABOVE_ANY_COST;

        /** Needs sides that are up to date and as many places as pieces; answers whether there is an arrangement. */
        boolean findBest(Sides sides, int w, int h, boolean turned, boolean withFrame) {
            turnCount = turned ? 4 : 1;
            framed = withFrame;
            for (int k = 0; k < MOST_PIECES; k++) {
                used[k] = false;
            }
            trial.reset(w, h);
            bestCost = ABOVE_ANY_COST;
            fillFrom(this, sides, 0, 0);
            return bestCost < ABOVE_ANY_COST;
        }

        /** The depth is the place, at most 8. */
        private static void fillFrom(Arranger a, Sides sides, int p, int costSoFar) {
            if (p >= a.trial.size() || p >= MOST_PLACES) {
                a.bestCost = costSoFar;
                a.best.copyFrom(a.trial);
                return;
            }
            for (int k = 0; k < a.trial.size(); k++) {
                for (int t = 0; t < a.turnCount && !a.used[k]; t++) {
                    int content = 4 * k + t;
                    // What costs as much as the best one comes later in the order, and costs never fall.
                    int reached = costSoFar + sides.addedCost(a.trial, p, content);
                    if (reached < a.bestCost && (!a.framed || a.fitsFrame(sides, p, content))) {
                        a.used[k] = true;
                        a.trial.contents[p] = content;
                        fillFrom(a, sides, p + 1, reached);
                        a.trial.contents[p] = NONE;
                        a.used[k] = false;
                    }
                }
            }
        }

        private boolean fitsFrame(Sides sides, int p, int content) {
            for (int d = 0; d < 4; d++) {
                boolean atRim = trial.neighborOf(p, d) == NONE;
                if (atRim != sides.isFlat(sideTowards(content, d))) {
                    return false;
                }
            }
            return true;
        }
    }

    /** Generates pictures and cuts them into pieces. */
    private static final class Maker {
        private long number = 0;
        private final int[] points = new int[MOST_POINTS];

        int makePieces(State state, int seed, int w, int h, int turned) {
            if (seed < 0 || seed > MOST_SEED || !isTableSize(w, h) || !isFlag(turned)) {
                return BAD;
            }
            number = seed;
            paintPoints(3 * w + 1, 3 * h + 1);
            state.count = w * h;
            for (int p = 0; p < state.count; p++) {
                state.cells[p] = cutPiece(3 * (p % w), 3 * (p / w), 3 * w + 1);
            }
            mixPieces(state);
            if (turned == 1) {
                turnPieces(state);
            }
            state.table.reset(w, h);
            return state.count;
        }

        private int drawNumber() {
            number = (1103515245L * number + 12345L) % 2147483648L;
            return (int) (number / 65536L);
        }

        private void paintPoints(int columns, int rows) {
            for (int y = 0; y < rows; y++) {
                for (int x = 0; x < columns; x++) {
                    boolean atRim = x == 0 || y == 0 || x == columns - 1 || y == rows - 1;
                    points[columns * y + x] = atRim ? 0 : drawNumber() % 3 + 1;
                }
            }
        }

        private int cutPiece(int left, int top, int columns) {
            int cells = 0;
            for (int i = 0; i < CELLS; i++) {
                cells |= points[columns * (top + i / 4) + left + i % 4] << (2 * i);
            }
            return cells;
        }

        private void mixPieces(State state) {
            for (int i = state.count - 1; i >= 1; i--) {
                int other = drawNumber() % (i + 1);
                int cells = state.cells[i];
                state.cells[i] = state.cells[other];
                state.cells[other] = cells;
            }
        }

        private void turnPieces(State state) {
            for (int p = 0; p < state.count; p++) {
                state.cells[p] = turnedCells(state.cells[p], drawNumber() % 4);
            }
        }
    }

    /** The bytes that were typed, and the orders that were last found in them. */
    private static final class Text {
        private final byte[] bytes = new byte[MOST_BYTES];
        int length = 0;
        private int position = 0;
        int orderCount = 0;
        final int[] letters = new int[MOST_ORDERS];
        /** The numbers of each order; for a new piece its cells alone. */
        final int[][] numbers = new int[MOST_ORDERS][MOST_NUMBERS];

        void append(int c) {
            if (length < MOST_BYTES) {
                bytes[length] = (byte) c;
                length++;
            }
        }

        /** Answers the error position, or NONE if the orders stand. */
        int parseOrders() {
            position = 0;
            orderCount = 0;
            skipSpaces();
            for (int k = 0; k < MOST_ORDERS; k++) {
                if (!parseOrder(k)) {
                    return position;
                }
                orderCount++;
                skipSpaces();
                if (position >= length) {
                    return NONE;
                }
            }
            // Not reached: so many orders leave no byte over.
            return position;
        }

        /** On failure the position is where the text went wrong, as in all parsing methods. */
        private boolean parseOrder(int k) {
            int letter = byteHere();
            int wanted = numbersAfter(letter);
            if (wanted == 0) {
                return false;
            }
            position++;
            letters[k] = letter;
            boolean fine = letter == 'p' ? parseCells(k) : parseNumbers(k, wanted);
            if (!fine) {
                return false;
            }
            skipSpaces();
            if (byteHere() != ';') {
                return false;
            }
            position++;
            return true;
        }

        /** How many numbers follow a letter (the cells count as one); 0 if it begins no order. */
        private static int numbersAfter(int letter) {
            switch (letter) {
                case 'p':
                case 'x':
                    return 1;
                case 't':
                    return 2;
                case 'a':
                    return 3;
                case 'm':
                    return 4;
                default:
                    return 0;
            }
        }

        private boolean parseCells(int k) {
            int cells = 0;
            for (int i = 0; i < CELLS; i++) {
                skipSpaces();
                int digit = byteHere() - '0';
                if (!isWithin(digit, 4)) {
                    return false;
                }
                cells |= digit << (2 * i);
                position++;
            }
            numbers[k][0] = cells;
            return true;
        }

        private boolean parseNumbers(int k, int wanted) {
            for (int i = 0; i < wanted; i++) {
                skipSpaces();
                int start = position;
                int value = 0;
                while (isDigitHere() && position < start + MOST_DIGITS) {
                    value = 10 * value + byteHere() - '0';
                    position++;
                }
                // A digit that is still here is the seventh.
                if (position == start || isDigitHere()) {
                    return false;
                }
                numbers[k][i] = value;
            }
            return true;
        }

        private void skipSpaces() {
            while (position < length && bytes[position] == ' ') {
                position++;
            }
        }

        private boolean isDigitHere() {
            return isWithin(byteHere() - '0', 10);
        }

        /** NONE behind the end, which is no byte that can be typed. */
        private int byteHere() {
            return position < length ? bytes[position] : NONE;
        }
    }
}
