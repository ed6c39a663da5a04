/**
 * Promise 17 says that there is a way to set pairs against one another. Here all ways are tried, one
 * after another, for all memories of three pairs whose firsts and rests are nil, a number or one of
 * the three; and alike must answer whether one of them does.
 */
public final class AlikeSearchTests {
    private static final int PAIRS = 3;
    private static final int NIL = PAIRS;
    private static final int NUMBER = PAIRS + 1;
    private static final int VALUES = PAIRS + 2;
    private static final int NIL_ROOT = NIL;
    private static final int NUMBER_ROOT = NUMBER;

    private static int asked = 0;
    private static int alike = 0;
    private static int wrong = 0;

    public static void main(String[] args) {
        int memories = 1;
        for (int slot = 0; slot < 2 * PAIRS; slot++) {
            memories *= VALUES;
        }
        for (int code = 0; code < memories; code++) {
            int[] parts = partsOf(code);
            askAll(parts, false);
            askAll(parts, true);
        }
        System.out.println(asked + " questions, " + alike + " alike, " + wrong + " wrong");
        if (wrong > 0 || alike == 0 || alike == asked) {
            System.exit(1);
        }
    }

    /** The first of pair p is parts[2 * p], its rest parts[2 * p + 1]. */
    private static int[] partsOf(int code) {
        int[] parts = new int[2 * PAIRS];
        int left = code;
        for (int slot = 0; slot < parts.length; slot++) {
            parts[slot] = left % VALUES;
            left /= VALUES;
        }
        return parts;
    }

    private static void askAll(int[] parts, boolean byList) {
        ListMemory m = memoryOf(parts, byList);
        for (int a = 0; a < VALUES; a++) {
            for (int b = 0; b < VALUES; b++) {
                boolean due = a == b || (a < PAIRS && b < PAIRS && aWayIsFound(parts, a, b));
                boolean got = m.alike(a, b);
                asked++;
                alike += due ? 1 : 0;
                if (got != due) {
                    wrong++;
                    System.out.println(java.util.Arrays.toString(parts) + (byList ? " by list" : " by cons")
                            + ": alike(" + a + ", " + b + ") answered " + got + ", due is " + due);
                }
            }
        }
    }

    /** Root p holds pair p. Made by list, a pair with another rest than nil moves: its root is late. */
    private static ListMemory memoryOf(int[] parts, boolean byList) {
        ListMemory m = new ListMemory();
        m.number(NUMBER_ROOT, 7);
        for (int p = 0; p < PAIRS; p++) {
            if (byList) {
                m.list(p, NIL_ROOT, 1);
            } else {
                m.cons(p, NIL_ROOT, NIL_ROOT);
            }
        }
        for (int p = 0; p < PAIRS; p++) {
            m.setFirst(p, parts[2 * p]);
            m.setRest(p, parts[2 * p + 1]);
        }
        return m;
    }

    /** Goes through all ways to set each pair against one, or against none (PAIRS). */
    private static boolean aWayIsFound(int[] parts, int a, int b) {
        int[] against = new int[PAIRS];
        int ways = 1;
        for (int p = 0; p < PAIRS; p++) {
            ways *= PAIRS + 1;
        }
        for (int way = 0; way < ways; way++) {
            int left = way;
            for (int p = 0; p < PAIRS; p++) {
                against[p] = left % (PAIRS + 1);
                left /= PAIRS + 1;
            }
            if (against[a] == b && isOneByOne(against) && holds(parts, against)) {
                return true;
            }
        }
        return false;
    }

    private static boolean isOneByOne(int[] against) {
        for (int p = 0; p < PAIRS; p++) {
            for (int q = 0; q < p; q++) {
                if (against[p] < PAIRS && against[p] == against[q]) {
                    return false;
                }
            }
        }
        return true;
    }

    private static boolean holds(int[] parts, int[] against) {
        for (int p = 0; p < PAIRS; p++) {
            int q = against[p];
            if (q < PAIRS && !(fits(parts[2 * p], parts[2 * q], against)
                    && fits(parts[2 * p + 1], parts[2 * q + 1], against))) {
                return false;
            }
        }
        return true;
    }

    private static boolean fits(int one, int other, int[] against) {
        if (one < PAIRS && other < PAIRS) {
            return against[one] == other;
        }
        return one == other;
    }
}
