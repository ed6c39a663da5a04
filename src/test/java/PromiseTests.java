import java.util.NoSuchElementException;

/** At least one test for each promise: ordinary inputs, the edges the document names, wrong inputs. */
public final class PromiseTests {
    private static final int[] NO_ROOTS = {-1, 10, Integer.MIN_VALUE, Integer.MAX_VALUE};
    private static final long GREATEST = 288230376151711743L;
    private static final long LEAST = -288230376151711744L;

    private static int checks = 0;
    private static int wrong = 0;

    private interface Call {
        void make();
    }

    public static void main(String[] args) {
        newObject();
        number();
        drop();
        copy();
        cons();
        list();
        first();
        rest();
        setFirst();
        setRestInPlace();
        setRestMoves();
        setRestCollects();
        setRestIsRefusedByRoomAlone();
        append();
        appendCollects();
        kindAndValue();
        same();
        length();
        words();
        alike();
        alikeOneByOne();
        collectOrder();
        collectCycles();
        collectForRoom();
        rootsAheadOfAllElse();
        about();
        word();
        toldPlaces();
        System.out.println(checks + " checks, " + wrong + " wrong");
        if (wrong != 0) {
            System.exit(1);
        }
    }

    private static void due(String what, Object got, Object want) {
        checks++;
        if (!got.equals(want)) {
            wrong++;
            System.out.println(what + ": answered " + got + ", due is " + want);
        }
    }

    private static void dueThrow(String what, Class<?> want, Call call) {
        Object got = "nothing";
        try {
            call.make();
        } catch (RuntimeException e) {
            got = e.getClass();
        }
        due(what + " throws", got, want);
    }

    /** The words in use, each as code:kind:body. */
    private static String dump(ListMemory m) {
        StringBuilder text = new StringBuilder();
        for (int p = 0; p < m.about(0); p++) {
            text.append(p == 0 ? "" : " ");
            text.append(m.word(p, 0)).append(':').append(m.word(p, 1)).append(':').append(m.word(p, 2));
        }
        return text.toString();
    }

    /** Roots 0 .. many - 1 hold the numbers 1 .. many, and root holds a list of them. */
    private static ListMemory withList(int root, int many) {
        ListMemory m = new ListMemory();
        for (int r = 0; r < many; r++) {
            m.number(r, r + 1);
        }
        m.list(root, 0, many);
        return m;
    }

    /** So many words that nothing can reach, and root 9 nil behind it. */
    private static void waste(ListMemory m, int many) {
        for (int left = many; left > 0; left -= Math.min(left, 10)) {
            m.list(9, 0, Math.min(left, 10));
        }
        m.drop(9);
    }

    private static void newObject() {
        ListMemory m = new ListMemory();
        for (int r = 0; r < 10; r++) {
            due("1: kind of a root", m.kind(r), 0);
        }
        due("1: words used", m.about(0), 0);
        due("1: words moved", m.about(1), 0);
        due("1: collections", m.about(2), 0);
        due("NONE", ListMemory.NONE, -1);
    }

    private static void number() {
        ListMemory m = new ListMemory();
        long[] numbers = {0, 1, -1, 4, -4, GREATEST, LEAST};
        for (long v : numbers) {
            m.number(9, v);
            due("2: kind", m.kind(9), 1);
            due("2: value", m.value(9), v);
        }
        long[] others = {GREATEST + 1, LEAST - 1, Long.MAX_VALUE, Long.MIN_VALUE};
        for (long v : others) {
            dueThrow("2: number(9, " + v + ")", IllegalArgumentException.class, () -> m.number(9, v));
            dueThrow("2: number(10, " + v + ")", NoSuchElementException.class, () -> m.number(10, v));
        }
        due("2: the number stays", m.value(9), LEAST);
        due("2: no word is used", m.about(0), 0);
        for (int r : NO_ROOTS) {
            dueThrow("2: number(" + r + ", 0)", NoSuchElementException.class, () -> m.number(r, 0));
        }
    }

    private static void drop() {
        ListMemory m = withList(3, 2);
        m.drop(3);
        m.drop(0);
        due("3: a pair dropped", m.kind(3), 0);
        due("3: a number dropped", m.kind(0), 0);
        due("3: the other stays", m.value(1), 2L);
        due("3: the words stay", m.about(0), 2);
        for (int r : NO_ROOTS) {
            dueThrow("3: drop(" + r + ")", NoSuchElementException.class, () -> m.drop(r));
        }
    }

    private static void copy() {
        ListMemory m = withList(3, 2);
        m.copy(4, 3);
        due("4: the same pair", m.same(3, 4), true);
        m.setFirst(4, 1);
        m.first(5, 3);
        due("4: one pair, not two", m.value(5), 2L);
        m.copy(3, 3);
        due("4: onto itself", m.same(3, 4), true);
        m.copy(3, 0);
        due("4: a number", m.value(3), 1L);
        m.copy(3, 9);
        due("4: nil", m.kind(3), 0);
        due("4: no new words", m.about(0), 2);
        for (int r : NO_ROOTS) {
            dueThrow("4: copy(" + r + ", 0)", NoSuchElementException.class, () -> m.copy(r, 0));
            dueThrow("4: copy(0, " + r + ")", NoSuchElementException.class, () -> m.copy(0, r));
        }
    }

    private static void cons() {
        ListMemory m = new ListMemory();
        m.number(0, 5);
        m.cons(1, 0, 2);
        due("5: of a number and nil", dump(m), "2:1:5 3:0:0");
        m.cons(1, 1, 1);
        due("5: of a pair twice", dump(m), "2:1:5 3:0:0 2:2:0 3:2:0");
        m.cons(3, 2, 0);
        due("5: ending in a number", dump(m), "2:1:5 3:0:0 2:2:0 3:2:0 2:0:0 3:1:5");
        due("5: length", m.length(3), -1);
        m.cons(4, 0, 2);
        m.cons(5, 0, 2);
        due("5: each pair is new", m.same(4, 5), false);
        for (int r : NO_ROOTS) {
            dueThrow("5: cons(" + r + ", 0, 0)", NoSuchElementException.class, () -> m.cons(r, 0, 0));
            dueThrow("5: cons(0, " + r + ", 0)", NoSuchElementException.class, () -> m.cons(0, r, 0));
            dueThrow("5: cons(0, 0, " + r + ")", NoSuchElementException.class, () -> m.cons(0, 0, r));
        }
        due("5: a refused call takes no words", m.about(0), 10);
    }

    private static void list() {
        ListMemory m = withList(3, 3);
        due("6: three numbers", dump(m), "0:1:1 0:1:2 1:1:3");
        m.list(3, 2, 2);
        due("6: with itself as it was", dump(m), "0:1:1 0:1:2 1:1:3 0:1:3 1:2:0");
        m.list(9, 9, 1);
        due("6: the last root alone", m.word(5, 0) * 10 + m.word(5, 1), 10L);
        m.list(0, 0, 10);
        due("6: all roots", m.length(0), 10);
        due("6: all roots, words", m.words(0), 10);
        int[] numbers = {0, -1, 11, Integer.MIN_VALUE, Integer.MAX_VALUE};
        for (int many : numbers) {
            dueThrow("6: list(1, 0, " + many + ")", IllegalArgumentException.class, () -> m.list(1, 0, many));
            dueThrow("6: list(10, 0, " + many + ")", NoSuchElementException.class, () -> m.list(10, 0, many));
            dueThrow("6: list(0, -1, " + many + ")", NoSuchElementException.class, () -> m.list(0, -1, many));
        }
        dueThrow("6: list(1, 1, 10)", IllegalArgumentException.class, () -> m.list(1, 1, 10));
        dueThrow("6: list(1, 9, 2)", IllegalArgumentException.class, () -> m.list(1, 9, 2));
        for (int r : NO_ROOTS) {
            dueThrow("6: list(" + r + ", 0, 1)", NoSuchElementException.class, () -> m.list(r, 0, 1));
            dueThrow("6: list(0, " + r + ", 1)", NoSuchElementException.class, () -> m.list(0, r, 1));
        }
        due("6: a refused call takes no words", m.about(0), 16);
    }

    private static void first() {
        ListMemory m = withList(3, 2);
        m.first(4, 3);
        due("7: with NEXT", m.value(4), 1L);
        m.cons(5, 3, 0);
        m.first(6, 5);
        due("7: with PAIR", m.same(6, 3), true);
        m.first(6, 6);
        due("7: onto itself", m.value(6), 1L);
        m.setRest(3, 0);
        m.first(4, 3);
        due("7: of a pair that moved", m.value(4), 1L);
        dueThrow("7: of a number", IllegalStateException.class, () -> m.first(3, 0));
        dueThrow("7: of nil", IllegalStateException.class, () -> m.first(3, 9));
        due("7: a refused call changes nothing", m.kind(3), 2);
        for (int r : NO_ROOTS) {
            dueThrow("7: first(" + r + ", 0)", NoSuchElementException.class, () -> m.first(r, 0));
            dueThrow("7: first(0, " + r + ")", NoSuchElementException.class, () -> m.first(0, r));
        }
    }

    private static void rest() {
        ListMemory m = withList(3, 2);
        m.rest(4, 3);
        due("8: with NEXT", m.kind(4), 2);
        m.first(5, 4);
        due("8: with NEXT, its first", m.value(5), 2L);
        m.rest(6, 4);
        due("8: with END", m.kind(6), 0);
        m.cons(7, 0, 3);
        m.rest(7, 7);
        due("8: with PAIR", m.same(7, 3), true);
        m.setRest(3, 0);
        m.rest(8, 7);
        due("8: of a pair that moved", m.value(8), 1L);
        dueThrow("8: of a number", IllegalStateException.class, () -> m.rest(3, 0));
        dueThrow("8: of nil", IllegalStateException.class, () -> m.rest(3, 9));
        due("8: a refused call changes nothing", m.kind(3), 2);
        for (int r : NO_ROOTS) {
            dueThrow("8: rest(" + r + ", 0)", NoSuchElementException.class, () -> m.rest(r, 0));
            dueThrow("8: rest(0, " + r + ")", NoSuchElementException.class, () -> m.rest(0, r));
        }
    }

    private static void setFirst() {
        ListMemory m = withList(3, 2);
        m.setFirst(3, 3);
        due("9: with NEXT, to itself", dump(m), "0:2:0 1:1:2");
        m.rest(4, 3);
        m.setFirst(4, 9);
        due("9: with END, to nil", dump(m), "0:2:0 1:0:0");
        m.setRest(4, 0);
        m.setFirst(4, 1);
        due("9: where its cell is now", dump(m), "0:2:0 1:3:2 2:1:2 3:1:1");
        dueThrow("9: of a number", IllegalStateException.class, () -> m.setFirst(0, 1));
        dueThrow("9: of nil", IllegalStateException.class, () -> m.setFirst(9, 1));
        for (int r : NO_ROOTS) {
            dueThrow("9: setFirst(" + r + ", 0)", NoSuchElementException.class, () -> m.setFirst(r, 0));
            dueThrow("9: setFirst(0, " + r + ")", NoSuchElementException.class, () -> m.setFirst(0, r));
        }
    }

    private static void setRestInPlace() {
        ListMemory m = withList(3, 2);
        m.rest(4, 3);
        m.setRest(3, 4);
        m.setRest(4, 9);
        due("10: the same already, pair and nil", dump(m), "0:1:1 1:1:2");
        m.cons(5, 0, 1);
        m.setRest(5, 1);
        due("10: the same number already", m.about(0), 4);
        m.setRest(5, 3);
        due("10: with PAIR the second word", dump(m), "0:1:1 1:1:2 2:1:1 3:2:0");
        m.setRest(3, 9);
        m.first(8, 5);
        m.rest(6, 5);
        m.copy(7, 3);
        m.setRest(5, 7);
        due("10: the same by way of a moved cell", m.word(3, 2), 0L);
        dueThrow("10: of a number", IllegalStateException.class, () -> m.setRest(0, 1));
        dueThrow("10: of nil", IllegalStateException.class, () -> m.setRest(9, 9));
        for (int r : NO_ROOTS) {
            dueThrow("10: setRest(" + r + ", 0)", NoSuchElementException.class, () -> m.setRest(r, 0));
            dueThrow("10: setRest(0, " + r + ")", NoSuchElementException.class, () -> m.setRest(0, r));
        }
    }

    private static void setRestMoves() {
        ListMemory m = withList(3, 3);
        m.rest(4, 3);
        m.setRest(4, 3);
        due("10: with NEXT it moves", dump(m), "0:1:1 0:3:3 1:1:3 2:1:2 3:2:0");
        due("10: the list comes round", m.length(3), -2);
        m.setRest(4, 9);
        due("10: moved once, then in place", dump(m), "0:1:1 0:3:3 1:1:3 2:1:2 3:0:0");
        due("10: seen through the one before", m.length(3), 2);
        m = withList(3, 1);
        m.setRest(3, 3);
        due("10: with END, to itself", dump(m), "1:3:1 2:1:1 3:2:0");
        due("10: to itself, its length", m.length(3), -2);
    }

    private static void setRestCollects() {
        // Root 2 and root 3 end in one pair: only the first that is laid keeps NEXT to it.
        ListMemory m = new ListMemory();
        m.number(0, 7);
        m.list(3, 0, 2);
        m.rest(1, 3);
        m.cons(2, 0, 1);
        waste(m, 115);
        due("10: words used before", m.about(0), 119);
        m.setRest(3, 0);
        due("10: PAIR after the collection", dump(m), "0:1:7 1:0:0 2:1:7 3:1:7");
        due("10: PAIR after the collection, moved", m.about(1), 0);
        due("10: collections", m.about(2), 1);

        ListMemory n = withList(3, 2);
        waste(n, 117);
        n.setRest(3, 0);
        due("10: NEXT after the collection", dump(n), "0:3:2 1:1:2 2:1:1 3:1:1");

        ListMemory k = withList(9, 10);
        fill(k, 119);
        dueThrow("10: no room", UnsupportedOperationException.class, () -> k.setRest(9, 0));
        due("10: no room, the collection stays", k.about(2), 1);
        due("10: no room, nothing else", k.length(9), 10);
        k.rest(1, 9);
        k.setRest(9, 1);
        due("10: the same already needs no room", k.about(2), 1);
    }

    private static void setRestIsRefusedByRoomAlone() {
        ListMemory m = new ListMemory();
        m.number(0, 7);
        m.list(3, 0, 2);
        m.rest(1, 3);
        m.cons(2, 0, 1);
        fill(m, 119);
        dueThrow("10: no two words, though PAIR then", UnsupportedOperationException.class, () -> m.setRest(3, 0));
        due("10: no two words, nothing else", m.length(3), 2);
        due("10: no two words, the collection stays", m.about(2), 1);
        m.setRest(3, 0);
        due("10: PAIR from the start needs no words", m.length(3), -1);
        due("10: PAIR from the start, collections", m.about(2), 1);
    }

    /** So many words are used then, and those that are taken here stay so many when collected. */
    private static void fill(ListMemory m, int many) {
        m.number(0, 7);
        m.list(8, 0, (many - m.about(0)) % 2 == 0 ? 2 : 1);
        for (int left = many - m.about(0); left > 0; left -= 2) {
            m.cons(8, 8, 0);
        }
    }

    private static void append() {
        ListMemory m = withList(3, 2);
        m.append(4, 3, 9);
        due("11: to nil", dump(m), "0:1:1 1:1:2 0:1:1 1:1:2");
        m.append(5, 3, 4);
        due("11: to a list", dump(m), "0:1:1 1:1:2 0:1:1 1:1:2 0:1:1 2:1:2 3:2:2");
        m.append(6, 3, 0);
        due("11: to a number", m.length(6), -1);
        due("11: to a number, words", m.words(6), 3);
        m.append(7, 9, 3);
        due("11: of nil", m.same(7, 3), true);
        m.append(7, 9, 0);
        due("11: of nil to a number", m.value(7), 1L);
        m.append(7, 9, 9);
        due("11: of nil to nil", m.kind(7), 0);
        due("11: of nil no words", m.about(0), 10);
        m.append(3, 3, 3);
        due("11: of itself to itself", m.length(3), 4);
        ListMemory n = new ListMemory();
        n.number(0, 70);
        n.number(1, 50);
        n.cons(2, 1, 9);
        n.cons(2, 0, 2);
        n.append(3, 2, 9);
        due("11: of cells with PAIR", dump(n), "2:1:50 3:0:0 2:1:70 3:2:0 0:1:70 1:1:50");
        m.setRest(4, 4);
        dueThrow("11: of a number", IllegalStateException.class, () -> m.append(7, 0, 3));
        dueThrow("11: of what ends in a number", IllegalStateException.class, () -> m.append(7, 6, 3));
        dueThrow("11: of what never ends", IllegalStateException.class, () -> m.append(7, 4, 3));
        for (int r : NO_ROOTS) {
            dueThrow("11: append(" + r + ", 0, 0)", NoSuchElementException.class, () -> m.append(r, 0, 0));
            dueThrow("11: append(0, " + r + ", 0)", NoSuchElementException.class, () -> m.append(0, r, 0));
            dueThrow("11: append(0, 0, " + r + ")", NoSuchElementException.class, () -> m.append(0, 0, r));
        }
        due("11: a refused call changes nothing", m.kind(7), 0);
    }

    private static void appendCollects() {
        ListMemory m = withList(5, 3);
        m.cons(6, 0, 9);
        waste(m, 112);
        m.append(6, 5, 6);
        due("11: after a collection", dump(m), "0:1:1 0:1:2 1:1:3 1:1:1 0:1:1 0:1:2 2:1:3 3:2:3");

        ListMemory n = withList(5, 3);
        waste(n, 114);
        n.append(6, 5, 9);
        due("11: just enough words", n.about(0), 120);
        due("11: just enough words, no collection", n.about(2), 0);

        ListMemory w = withList(5, 3);
        waste(w, 113);
        w.append(6, 5, 0);
        due("11: just enough words with one more", w.about(0), 120);
        due("11: just enough words with one more, no collection", w.about(2), 0);

        ListMemory k = withList(9, 10);
        k.append(9, 9, 9);
        k.append(9, 9, 9);
        k.append(9, 9, 9);
        due("11: a long list", k.length(9), 80);
        due("11: a long list, words used", k.about(0), 83);
        dueThrow("11: no room", UnsupportedOperationException.class, () -> k.append(9, 9, 9));
        due("11: no room, nothing else", k.length(9), 80);
        due("11: no room, the collection stays", k.about(0), 80);
    }

    private static void kindAndValue() {
        ListMemory m = withList(3, 2);
        due("12: nil", m.kind(9), 0);
        due("12: a number", m.kind(0), 1);
        due("12: a pair", m.kind(3), 2);
        m.setRest(3, 0);
        due("12: a pair that moved", m.kind(3), 2);
        due("13: a number", m.value(1), 2L);
        dueThrow("13: of nil", IllegalStateException.class, () -> m.value(9));
        dueThrow("13: of a pair", IllegalStateException.class, () -> m.value(3));
        for (int r : NO_ROOTS) {
            dueThrow("12: kind(" + r + ")", NoSuchElementException.class, () -> m.kind(r));
            dueThrow("13: value(" + r + ")", NoSuchElementException.class, () -> m.value(r));
        }
    }

    private static void same() {
        ListMemory m = withList(3, 2);
        m.list(4, 0, 2);
        due("14: pairs that look alike", m.same(3, 4), false);
        due("14: a root and itself", m.same(3, 3), true);
        due("14: nil and nil", m.same(8, 9), true);
        m.number(5, 1);
        due("14: the same number", m.same(0, 5), true);
        due("14: another number", m.same(0, 1), false);
        m.number(5, 0);
        due("14: nil and the number 0", m.same(5, 9), false);
        due("14: the number 0 and the pair at 0", m.same(5, 3), false);
        m.rest(6, 3);
        m.setRest(6, 0);
        m.setFirst(6, 6);
        m.cons(7, 6, 9);
        m.first(7, 7);
        due("14: one pair that moved", m.same(6, 7), true);
        m.collect();
        due("14: one pair after a collection", m.same(6, 7), true);
        for (int r : NO_ROOTS) {
            dueThrow("14: same(" + r + ", 0)", NoSuchElementException.class, () -> m.same(r, 0));
            dueThrow("14: same(0, " + r + ")", NoSuchElementException.class, () -> m.same(0, r));
        }
    }

    private static void length() {
        ListMemory m = withList(3, 3);
        due("15: nil", m.length(9), 0);
        due("15: a number", m.length(0), -1);
        due("15: a list", m.length(3), 3);
        m.rest(4, 3);
        m.rest(5, 4);
        m.setRest(5, 0);
        due("15: ending in a number", m.length(3), -1);
        m.setRest(5, 4);
        due("15: coming round to the middle", m.length(3), -2);
        m.setRest(5, 5);
        due("15: coming round to the last", m.length(3), -2);
        ListMemory full = new ListMemory();
        full.list(1, 0, 10);
        for (int i = 0; i < 109; i++) {
            full.cons(1, 0, 1);
        }
        due("15: a list through all the words", full.length(1), 119);
        dueThrow("15: one more", UnsupportedOperationException.class, () -> full.cons(1, 0, 1));
        due("15: laid straight", full.about(0), 119);
        due("15: a list as long as there can be", full.length(1), 119);
        for (int r : NO_ROOTS) {
            dueThrow("15: length(" + r + ")", NoSuchElementException.class, () -> m.length(r));
        }
    }

    private static void words() {
        ListMemory m = withList(3, 3);
        due("16: nil", m.words(9), 0);
        due("16: a number", m.words(0), 0);
        due("16: NEXT and END", m.words(3), 3);
        m.cons(4, 3, 3);
        due("16: PAIR, the spine alone", m.words(4), 5);
        m.cons(5, 3, 0);
        due("16: PAIR and a number", m.words(5), 2);
        m.rest(6, 3);
        m.setRest(6, 3);
        due("16: passed from the one before", m.words(3), 4);
        due("16: passed from the root", m.words(6), 4);
        m.cons(7, 0, 6);
        due("16: passed from PAIR", m.words(7), 6);
        m.setRest(3, 6);
        due("16: the same already", m.words(3), 4);
        m.rest(8, 6);
        m.setRest(8, 9);
        due("16: a moved cell before a moved cell", m.words(6), 6);
        m.setRest(6, 6);
        due("16: passed again to a pair counted before", m.words(6), 3);
        m.collect();
        due("16: nothing to pass after a collection", m.words(6), 2);
        for (int r : NO_ROOTS) {
            dueThrow("16: words(" + r + ")", NoSuchElementException.class, () -> m.words(r));
        }
    }

    private static void alike() {
        ListMemory m = withList(3, 3);
        m.cons(4, 2, 9);
        m.cons(4, 1, 4);
        m.cons(4, 0, 4);
        due("17: lists laid otherwise", m.alike(3, 4), true);
        due("17: nil and nil", m.alike(8, 9), true);
        due("17: nil and a list", m.alike(9, 3), false);
        due("17: numbers", m.alike(0, 0), true);
        due("17: other numbers", m.alike(0, 1), false);
        m.number(5, 0);
        due("17: nil and 0", m.alike(5, 9), false);
        m.setFirst(4, 2);
        due("17: another first", m.alike(3, 4), false);
        m.setFirst(4, 0);
        m.rest(6, 4);
        m.setRest(6, 9);
        due("17: a shorter list", m.alike(3, 4), false);
        due("17: a longer list", m.alike(4, 3), false);
        due("17: a list and itself", m.alike(3, 3), true);
        for (int r : NO_ROOTS) {
            dueThrow("17: alike(" + r + ", 0)", NoSuchElementException.class, () -> m.alike(r, 0));
            dueThrow("17: alike(0, " + r + ")", NoSuchElementException.class, () -> m.alike(0, r));
        }
    }

    private static void alikeOneByOne() {
        ListMemory m = new ListMemory();
        m.list(1, 0, 1);
        m.list(2, 0, 1);
        m.cons(3, 1, 1);
        m.cons(4, 1, 2);
        due("17: one pair twice against two", m.alike(3, 4), false);
        due("17: two against one pair twice", m.alike(4, 3), false);
        m.cons(5, 2, 1);
        due("17: two against two", m.alike(4, 5), true);
        m.cons(6, 2, 2);
        due("17: one twice against another twice", m.alike(3, 6), true);

        ListMemory n = new ListMemory();
        n.list(1, 0, 1);
        n.setRest(1, 1);
        n.list(2, 0, 2);
        n.rest(3, 2);
        n.setFirst(2, 0);
        n.setFirst(3, 0);
        n.setRest(3, 2);
        due("17: a round of one against a round of two", n.alike(1, 2), false);
        due("17: a round of two against its other pair", n.alike(2, 3), true);
        n.cons(4, 0, 0);
        n.cons(4, 0, 4);
        n.cons(4, 0, 4);
        n.rest(5, 4);
        n.rest(6, 5);
        n.setRest(6, 4);
        due("17: a round of three against its next", n.alike(4, 5), true);
        due("17: a round of two against one of three", n.alike(2, 4), false);
        n.collect();
        due("17: after a collection", n.alike(4, 6), true);
    }

    private static void collectOrder() {
        // Root 0 holds a list whose second first is a list; root 1 its rest.
        ListMemory m = new ListMemory();
        m.number(4, 7);
        m.list(5, 4, 1);
        m.cons(6, 5, 9);
        m.cons(0, 4, 6);
        m.copy(1, 6);
        m.drop(5);
        m.drop(6);
        due("18: words used then", m.collect(), 3);
        due("18: heads first, then firsts", dump(m), "0:1:7 1:2:2 1:1:7");
        due("18: the root's new place", m.words(1), 1);
        due("18: collections", m.about(2), 1);
        due("18: again", m.collect(), 3);
        due("18: collections again", m.about(2), 2);

        ListMemory n = new ListMemory();
        n.number(1, 1);
        n.number(2, 2);
        n.list(3, 1, 2);
        n.cons(5, 1, 3);
        n.cons(4, 2, 3);
        n.drop(3);
        n.collect();
        due("18: two heads with one rest", dump(n), "0:1:2 0:1:1 1:1:2 2:1:1 3:2:1");

        ListMemory w = withList(3, 2);
        w.cons(4, 3, 0);
        w.drop(3);
        w.collect();
        due("18: first ahead of rest, a number as rest", dump(w), "2:2:2 3:1:1 0:1:1 1:1:2");

        // Each list is twice in the next one: its pairs are listed once, not once for each way.
        ListMemory d = withList(3, 1);
        for (int i = 0; i < 20; i++) {
            d.copy(4, 3);
            d.list(3, 3, 2);
        }
        d.drop(4);
        due("18: reached by many ways", d.collect(), 41);
        for (int i = 0; i < 20; i++) {
            d.first(3, 3);
        }
        d.first(3, 3);
        due("18: reached by many ways, the last", d.value(3), 1L);

        ListMemory e = withList(3, 2);
        e.drop(3);
        due("18: nothing to reach", e.collect(), 0);
        due("18: a number stays", e.value(1), 2L);
    }

    private static void collectCycles() {
        ListMemory m = new ListMemory();
        m.number(0, 5);
        m.cons(1, 0, 9);
        m.setRest(1, 1);
        m.collect();
        due("18: its own rest", dump(m), "2:1:5 3:2:0");

        ListMemory n = withList(3, 3);
        n.rest(4, 3);
        n.rest(5, 4);
        n.setRest(5, 3);
        n.drop(3);
        n.drop(5);
        n.collect();
        due("18: a round, from the first listed on", dump(n), "0:1:2 0:1:3 2:1:1 3:2:0");
        due("18: nothing is moved", n.about(1), 0);

        ListMemory k = withList(3, 3);
        k.rest(4, 3);
        k.rest(5, 4);
        k.setRest(5, 4);
        k.copy(0, 4);
        k.collect();
        due("18: a way into a round is laid first", dump(k), "0:1:1 0:1:2 2:1:3 3:2:1");
        due("18: the root in the round", k.words(0), 3);
    }

    private static void collectForRoom() {
        ListMemory m = withList(3, 2);
        waste(m, 116);
        m.cons(4, 0, 3);
        due("Terms: just enough words", m.about(0), 120);
        due("Terms: just enough words, collections", m.about(2), 0);
        m.list(5, 0, 1);
        due("Terms: a collection is made first", m.about(2), 1);
        due("Terms: the words then", dump(m), "0:1:1 0:1:1 1:1:2 1:1:1");
        ListMemory k = new ListMemory();
        fill(k, 120);
        dueThrow("Terms: no room for cons", UnsupportedOperationException.class, () -> k.cons(8, 8, 8));
        due("Terms: the collection stays", k.about(2), 1);
        due("Terms: nothing else changes", k.about(0), 120);
        dueThrow("Terms: no room for list", UnsupportedOperationException.class, () -> k.list(8, 0, 1));
        due("Terms: another collection", k.about(2), 2);
        k.first(8, 8);
        k.list(8, 8, 1);
        due("Terms: room once the root lets go", k.about(0), 119);
        dueThrow("Terms: one word is not two", UnsupportedOperationException.class, () -> k.cons(8, 8, 8));
        due("Terms: the root's own pair is reached while it is collected", k.about(0), 119);
    }

    private static void rootsAheadOfAllElse() {
        ListMemory m = new ListMemory();
        fill(m, 120);
        dueThrow("Terms: cons", NoSuchElementException.class, () -> m.cons(8, 8, 10));
        dueThrow("Terms: list", NoSuchElementException.class, () -> m.list(10, 8, 5));
        dueThrow("Terms: first", NoSuchElementException.class, () -> m.first(10, 0));
        dueThrow("Terms: rest", NoSuchElementException.class, () -> m.rest(10, 0));
        dueThrow("Terms: setFirst", NoSuchElementException.class, () -> m.setFirst(0, 10));
        dueThrow("Terms: setRest", NoSuchElementException.class, () -> m.setRest(0, 10));
        m.number(1, 1);
        dueThrow("Terms: append", NoSuchElementException.class, () -> m.append(0, 1, 10));
        due("Terms: no collection for a refused call", m.about(2), 0);
        dueThrow("Terms: list, too many", IllegalArgumentException.class, () -> m.list(0, 8, 5));
        dueThrow("Terms: append, no list", IllegalStateException.class, () -> m.append(0, 1, 1));
        due("Terms: no collection for a refused call either", m.about(2), 0);
    }

    private static void about() {
        ListMemory m = withList(3, 3);
        due("19: words used", m.about(0), 3);
        due("19: none moved", m.about(1), 0);
        m.rest(4, 3);
        m.setRest(3, 9);
        m.setRest(4, 9);
        due("19: words used with the moved ones", m.about(0), 7);
        due("19: moved", m.about(1), 2);
        m.collect();
        due("19: moved after a collection", m.about(1), 0);
        due("19: collections", m.about(2), 1);
        int[] others = {3, -1, Integer.MIN_VALUE, Integer.MAX_VALUE};
        for (int what : others) {
            due("19: about(" + what + ")", m.about(what), ListMemory.NONE);
        }
    }

    private static void word() {
        ListMemory m = withList(3, 2);
        m.number(0, GREATEST);
        m.cons(4, 0, 3);
        m.number(0, LEAST);
        m.cons(5, 9, 0);
        m.setRest(3, 9);
        due("20: all codes and kinds", dump(m), "0:3:6 1:1:2 2:1:" + GREATEST + " 3:2:0 2:0:0 3:1:" + LEAST
                + " 2:1:1 3:0:0");
        int[] unused = {-1, 8, 119, 120, Integer.MIN_VALUE, Integer.MAX_VALUE};
        for (int p : unused) {
            for (int what = -1; what <= 3; what++) {
                int w = what;
                dueThrow("20: word(" + p + ", " + w + ")", IndexOutOfBoundsException.class, () -> m.word(p, w));
            }
        }
        int[] others = {-1, 3, Integer.MIN_VALUE, Integer.MAX_VALUE};
        for (int what : others) {
            dueThrow("20: word(0, " + what + ")", IllegalArgumentException.class, () -> m.word(0, what));
        }
        m.drop(4);
        m.drop(5);
        due("20: fewer words after a collection", m.collect(), 1);
        dueThrow("20: no longer used", IndexOutOfBoundsException.class, () -> m.word(1, 0));
        ListMemory full = new ListMemory();
        fill(full, 120);
        due("20: the last word", full.word(119, 0), 3L);
        dueThrow("20: behind the last word", IndexOutOfBoundsException.class, () -> full.word(120, 0));
    }

    private static void toldPlaces() {
        ListMemory m = withList(3, 2);
        m.rest(4, 3);
        m.setRest(4, 0);
        m.copy(5, 4);
        m.cons(6, 5, 5);
        due("Terms: handed on, it tells the old place", m.word(4, 2) * 10 + m.word(5, 2), 11L);
        m.first(7, 6);
        m.list(8, 7, 1);
        due("Terms: handed on by first", m.word(6, 2), 1L);
        m.rest(7, 6);
        m.setFirst(3, 7);
        due("Terms: handed on by rest with PAIR", m.word(0, 2), 1L);
        // The document can be read either way here: the word behind, or where that one moved to.
        m.rest(7, 3);
        m.list(8, 7, 1);
        due("Terms: a rest with NEXT tells the word behind", m.word(7, 2), 1L);
        m.collect();
        due("Terms: by a collection the new place", dump(m), "0:2:1 2:1:2 3:1:1 2:2:1 3:2:1 1:2:1");
    }
}
