import java.util.Arrays;
import java.util.NoSuchElementException;

/** A memory for lists that lie close together; shared/DOC.md has its promises. */
public final class ListMemory {
    public static final int NONE = -1;

    private static final int ROOTS = 10;
    private static final int SIZE = 120;
    private static final int MOST_LISTED = 10;

    private static final int NUMBER_BITS = 58;
    private static final long LEAST = -(1L << NUMBER_BITS);
    private static final long GREATEST = (1L << NUMBER_BITS) - 1;

    private static final int NEXT = 0;
    private static final int END = 1;
    private static final int PAIR = 2;
    private static final int SECOND = 3;

    // A content is one long, its body above its kind: a number has 59 bits, so both fit.
    private static final int KIND_BITS = 2;
    private static final long KIND_MASK = 3L;
    private static final int IS_NIL = 0;
    private static final int IS_NUMBER = 1;
    private static final int IS_PAIR = 2;
    private static final int IS_MOVED = 3;
    private static final long NIL = 0L;

    private static final int ENDS_IN_NUMBER = -1;
    private static final int NEVER_ENDS = -2;

    private final long[] roots = new long[ROOTS];
    private final Collector collector = new Collector();
    private final Matching matching = new Matching();
    private final int[] counted = new int[SIZE];
    private Half half = new Half();
    private Half otherHalf = new Half();
    private int collections = 0;

    public ListMemory() {
    }

    public void number(int root, long v) throws NoSuchElementException, IllegalArgumentException {
        checkRoot(root);
        if (v < LEAST || v > GREATEST) {
            throw new IllegalArgumentException("no number");
        }
        roots[root] = content(IS_NUMBER, v);
    }

    public void drop(int root) throws NoSuchElementException {
        checkRoot(root);
        roots[root] = NIL;
    }

    public void copy(int root, int from) throws NoSuchElementException {
        checkRoots(root, from);
        roots[root] = roots[from];
    }

    public void cons(int root, int first, int rest)
            throws NoSuchElementException, UnsupportedOperationException {
        checkRoots(root, first);
        checkRoot(rest);
        makeRoom(2);
        roots[root] = content(IS_PAIR, half.takeTwo(roots[first], roots[rest]));
    }

    public void list(int root, int from, int many)
            throws NoSuchElementException, IllegalArgumentException, UnsupportedOperationException {
        checkRoots(root, from);
        if (many < 1 || many > MOST_LISTED || many > ROOTS - from) {
            throw new IllegalArgumentException("no such run of roots");
        }
        makeRoom(many);
        int start = half.taken;
        for (int i = 0; i < many; i++) {
            half.take(i < many - 1 ? NEXT : END, roots[from + i]);
        }
        roots[root] = content(IS_PAIR, start);
    }

    public void first(int root, int from) throws NoSuchElementException, IllegalStateException {
        checkRoots(root, from);
        checkHoldsPair(from);
        roots[root] = half.contentAt(half.cellOf(roots[from]));
    }

    public void rest(int root, int from) throws NoSuchElementException, IllegalStateException {
        checkRoots(root, from);
        checkHoldsPair(from);
        roots[root] = half.restOf(half.cellOf(roots[from]));
    }

    public void setFirst(int root, int v) throws NoSuchElementException, IllegalStateException {
        checkRoots(root, v);
        checkHoldsPair(root);
        half.setContent(half.cellOf(roots[root]), roots[v]);
    }

    public void setRest(int root, int v)
            throws NoSuchElementException, IllegalStateException, UnsupportedOperationException {
        checkRoots(root, v);
        checkHoldsPair(root);
        int cell = half.cellOf(roots[root]);
        if (isSame(half.restOf(cell), roots[v])) {
            return;
        }
        if (half.codeAt(cell) != PAIR) {
            makeRoom(2);
            // A collection made for the room may have laid the cell elsewhere, with another code.
            cell = half.cellOf(roots[root]);
        }
        if (half.codeAt(cell) == PAIR) {
            half.setContent(cell + 1, roots[v]);
        } else {
            int place = half.takeTwo(half.contentAt(cell), roots[v]);
            half.setContent(cell, content(IS_MOVED, place));
        }
    }

    public void append(int root, int a, int b)
            throws NoSuchElementException, IllegalStateException, UnsupportedOperationException {
        checkRoots(root, a);
        checkRoot(b);
        int many = countPairs(roots[a]);
        if (many < 0) {
            throw new IllegalStateException("not a list with an end");
        }
        if (many == 0) {
            roots[root] = roots[b];
            return;
        }
        makeRoom(kindOf(roots[b]) == IS_NIL ? many : many + 1);
        int start = half.taken;
        takeFirsts(roots[a], many, roots[b]);
        roots[root] = content(IS_PAIR, start);
    }

    public int kind(int root) throws NoSuchElementException {
        checkRoot(root);
        return kindOf(roots[root]);
    }

    public long value(int root) throws NoSuchElementException, IllegalStateException {
        checkRoot(root);
        if (kindOf(roots[root]) != IS_NUMBER) {
            throw new IllegalStateException("the root holds no number");
        }
        return bodyOf(roots[root]);
    }

    public boolean same(int a, int b) throws NoSuchElementException {
        checkRoots(a, b);
        return isSame(roots[a], roots[b]);
    }

    public int length(int root) throws NoSuchElementException {
        checkRoot(root);
        return countPairs(roots[root]);
    }

    public int words(int root) throws NoSuchElementException {
        checkRoot(root);
        return countWords(roots[root]);
    }

    public boolean alike(int a, int b) throws NoSuchElementException {
        checkRoots(a, b);
        return matching.canBeMade(half, roots[a], roots[b]);
    }

    public int collect() {
        makeCollection();
        return half.taken;
    }

    public int about(int what) {
        switch (what) {
            case 0:
                return half.taken;
            case 1:
                return half.countMoved();
            case 2:
                return collections;
            default:
                return NONE;
        }
    }

    public long word(int p, int what) throws IndexOutOfBoundsException, IllegalArgumentException {
        if (!half.isUsed(p)) {
            throw new IndexOutOfBoundsException("the word is not used");
        }
        switch (what) {
            case 0:
                return half.codeAt(p);
            case 1:
                return kindOf(half.contentAt(p));
            case 2:
                return bodyOf(half.contentAt(p));
            default:
                throw new IllegalArgumentException("nothing to tell of a word");
        }
    }

    private static long content(int kind, long body) {
        return (body << KIND_BITS) | kind;
    }

    private static int kindOf(long content) {
        return (int) (content & KIND_MASK);
    }

    private static long bodyOf(long content) {
        return content >> KIND_BITS;
    }

    /** Every place comes from here, so that it can stand as an index into a row of SIZE. */
    private static int placeOf(long content) {
        long place = content >> KIND_BITS;
        return place >= 0 && place < SIZE ? (int) place : 0;
    }

    private static void checkRoot(int root) {
        if (root < 0 || root >= ROOTS) {
            throw new NoSuchElementException("no such root");
        }
    }

    private static void checkRoots(int root, int other) {
        checkRoot(root);
        checkRoot(other);
    }

    private void checkHoldsPair(int root) {
        if (kindOf(roots[root]) != IS_PAIR) {
            throw new IllegalStateException("the root holds no pair");
        }
    }

    private void makeRoom(int many) {
        if (many > half.wordsLeft()) {
            makeCollection();
        }
        if (many > half.wordsLeft()) {
            throw new UnsupportedOperationException("not enough words left");
        }
    }

    private void makeCollection() {
        otherHalf.clear();
        collector.listReached(half, roots);
        collector.layListed(half, otherHalf, true);
        collector.layListed(half, otherHalf, false);
        collector.tellNewPlaces(half, otherHalf, roots);
        Half left = half;
        half = otherHalf;
        otherHalf = left;
        collections++;
    }

    private boolean isSame(long a, long b) {
        if (kindOf(a) == IS_PAIR && kindOf(b) == IS_PAIR) {
            return half.cellOf(a) == half.cellOf(b);
        }
        return a == b;
    }

    private int countPairs(long value) {
        long v = value;
        int pairs = 0;
        while (pairs <= SIZE && kindOf(v) == IS_PAIR) {
            pairs++;
            v = half.restOf(half.cellOf(v));
        }
        if (pairs > SIZE) {
            // There is no room for so many pairs, so one of them came twice.
            return NEVER_ENDS;
        }
        return kindOf(v) == IS_NIL ? pairs : ENDS_IN_NUMBER;
    }

    private int countWords(long value) {
        Arrays.fill(counted, 0);
        long v = value;
        int sum = 0;
        for (int i = 0; i < SIZE && kindOf(v) == IS_PAIR; i++) {
            int cell = half.cellOf(v);
            if (counted[cell] == 1) {
                return sum;
            }
            counted[cell] = 1;
            sum += half.codeAt(cell) == PAIR ? 2 : 1;
            if (cell != placeOf(v)) {
                sum++;
            }
            v = half.restOf(cell);
        }
        return sum;
    }

    private void takeFirsts(long from, int many, long end) {
        boolean endsInNil = kindOf(end) == IS_NIL;
        long v = from;
        for (int i = 0; i < many; i++) {
            int cell = half.cellOf(v);
            long first = half.contentAt(cell);
            if (i < many - 1) {
                half.take(NEXT, first);
            } else if (endsInNil) {
                half.take(END, first);
            } else {
                half.takeTwo(first, end);
            }
            v = half.restOf(cell);
        }
    }

    /** One half of the memory: its words, and how many of them are taken. */
    private static final class Half {
        private final int[] codes = new int[SIZE];
        private final long[] contents = new long[SIZE];
        private int taken = 0;

        void clear() {
            taken = 0;
        }

        int wordsLeft() {
            return SIZE - taken;
        }

        boolean isUsed(int p) {
            return p >= 0 && p < taken;
        }

        int codeAt(int p) {
            return p >= 0 && p < SIZE ? codes[p] : END;
        }

        long contentAt(int p) {
            return p >= 0 && p < SIZE ? contents[p] : NIL;
        }

        void setContent(int p, long content) {
            if (p >= 0 && p < SIZE) {
                contents[p] = content;
            }
        }

        int take(int code, long content) {
            int p = taken;
            if (p >= 0 && p < SIZE) {
                codes[p] = code;
                contents[p] = content;
                taken = p + 1;
            }
            return p;
        }

        int takeTwo(long first, long rest) {
            int p = take(PAIR, first);
            take(SECOND, rest);
            return p;
        }

        /** One step is enough: a pair moves to a cell with PAIR, and from there it never moves. */
        int cellOf(long pair) {
            int p = placeOf(pair);
            long there = contentAt(p);
            return kindOf(there) == IS_MOVED ? placeOf(there) : p;
        }

        long restOf(int cell) {
            switch (codeAt(cell)) {
                case NEXT:
                    return content(IS_PAIR, cell + 1);
                case PAIR:
                    return contentAt(cell + 1);
                default:
                    return NIL;
            }
        }

        int countMoved() {
            int moved = 0;
            for (int p = 0; p < taken; p++) {
                if (kindOf(contentAt(p)) == IS_MOVED) {
                    moved++;
                }
            }
            return moved;
        }
    }

    /** Lists the pairs that can be reached in one half, and lays them straight in the other. */
    private static final class Collector {
        private final int[] listed = new int[SIZE];
        private final int[] isListed = new int[SIZE];
        private final int[] isRest = new int[SIZE];
        private final int[] newPlaces = new int[SIZE];
        private int many = 0;

        void listReached(Half from, long[] roots) {
            many = 0;
            Arrays.fill(isListed, 0);
            Arrays.fill(isRest, 0);
            Arrays.fill(newPlaces, NONE);
            for (int r = 0; r < roots.length; r++) {
                listPair(from, roots[r]);
            }
            for (int i = 0; i < many && i < SIZE; i++) {
                int cell = listed[i];
                long rest = from.restOf(cell);
                listPair(from, from.contentAt(cell));
                listPair(from, rest);
                if (kindOf(rest) == IS_PAIR) {
                    isRest[from.cellOf(rest)] = 1;
                }
            }
        }

        private void listPair(Half from, long value) {
            if (kindOf(value) != IS_PAIR) {
                return;
            }
            int cell = from.cellOf(value);
            if (isListed[cell] == 0 && many < SIZE) {
                isListed[cell] = 1;
                listed[many] = cell;
                many++;
            }
        }

        void layListed(Half from, Half to, boolean headsAlone) {
            for (int i = 0; i < many && i < SIZE; i++) {
                int cell = listed[i];
                if (newPlaces[cell] != NONE || (headsAlone && isRest[cell] == 1)) {
                    continue;
                }
                for (int laid = 0; laid < SIZE && cell != NONE; laid++) {
                    cell = layCell(from, to, cell);
                }
            }
        }

        /**
         * Answers the cell that is to lie behind this one, or NONE. The contents still tell places
         * of the old half: not all new places are known yet.
         */
        private int layCell(Half from, Half to, int cell) {
            long first = from.contentAt(cell);
            long rest = from.restOf(cell);
            newPlaces[cell] = to.taken;
            if (kindOf(rest) == IS_NIL) {
                to.take(END, first);
                return NONE;
            }
            if (kindOf(rest) == IS_PAIR) {
                int next = from.cellOf(rest);
                if (newPlaces[next] == NONE) {
                    to.take(NEXT, first);
                    return next;
                }
            }
            to.takeTwo(first, rest);
            return NONE;
        }

        void tellNewPlaces(Half from, Half to, long[] roots) {
            for (int p = 0; p < to.taken; p++) {
                to.setContent(p, inNewHalf(from, to.contentAt(p)));
            }
            for (int r = 0; r < roots.length; r++) {
                roots[r] = inNewHalf(from, roots[r]);
            }
        }

        private long inNewHalf(Half from, long value) {
            if (kindOf(value) != IS_PAIR) {
                return value;
            }
            return content(IS_PAIR, newPlaces[from.cellOf(value)]);
        }
    }

    /** Sets the pairs of two values against one another, each against one at the most. */
    private static final class Matching {
        private final int[] forth = new int[SIZE];
        private final int[] back = new int[SIZE];
        private final int[] waiting = new int[SIZE];
        private int many = 0;

        boolean canBeMade(Half half, long a, long b) {
            many = 0;
            Arrays.fill(forth, NONE);
            Arrays.fill(back, NONE);
            if (!fit(half, a, b)) {
                return false;
            }
            for (int i = 0; i < many && i < SIZE; i++) {
                int one = waiting[i];
                int other = forth[one];
                if (!fit(half, half.contentAt(one), half.contentAt(other))
                        || !fit(half, half.restOf(one), half.restOf(other))) {
                    return false;
                }
            }
            return true;
        }

        private boolean fit(Half half, long a, long b) {
            if (kindOf(a) != IS_PAIR || kindOf(b) != IS_PAIR) {
                return a == b;
            }
            int one = half.cellOf(a);
            int other = half.cellOf(b);
            if (forth[one] == NONE && back[other] == NONE && many < SIZE) {
                forth[one] = other;
                back[other] = one;
                waiting[many] = one;
                many++;
                return true;
            }
            return forth[one] == other;
        }
    }
}
