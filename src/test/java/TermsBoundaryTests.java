import java.util.LinkedHashMap;
import java.util.Map;
import java.util.NoSuchElementException;

/** The bounds under "What it is" and "Terms", but for those of a collection. */
public final class TermsBoundaryTests extends Boundaries {
    private static final long[] NO_NUMBERS = {
        LEAST - 1, GREATEST + 1, LEAST - 2, GREATEST + 2, 1L << 59, -(1L << 59), 1L << 60, -(1L << 60),
        1L << 61, 1L << 62, Long.MAX_VALUE, Long.MIN_VALUE, Long.MIN_VALUE + 1,
    };

    private interface RootCall {
        void make(ListMemory m, int r);
    }

    public static void main(String[] args) {
        make(
                TermsBoundaryTests::callsOfAnObject,
                TermsBoundaryTests::numbersOnTheBounds,
                TermsBoundaryTests::numbersOutOfBounds,
                TermsBoundaryTests::sameValues,
                TermsBoundaryTests::rootsOnTheBounds,
                TermsBoundaryTests::rootsOutOfBounds,
                TermsBoundaryTests::rootsAheadOfAllElse,
                TermsBoundaryTests::halvesFull,
                TermsBoundaryTests::wordsUpToThoseUsed,
                TermsBoundaryTests::cellsAtTheEndOfTheHalf,
                TermsBoundaryTests::movedCells,
                TermsBoundaryTests::placesThatAreTold,
                TermsBoundaryTests::placesHandedOn,
                TermsBoundaryTests::placesOfTheWordBehind,
                TermsBoundaryTests::newWords,
                TermsBoundaryTests::roomMadeFirst,
                TermsBoundaryTests::roomNotMade,
                TermsBoundaryTests::throwingChangesNothing);
    }

    private static void callsOfAnObject() {
        sentence("What it is", "An object is used for at most 512 calls after it has been made");
        ListMemory m = new ListMemory();
        for (int i = 1; i <= 511; i++) {
            m.collect();
        }
        due("the 512th call", m.about(2), 511);
        ListMemory n = new ListMemory();
        for (int i = 1; i <= 511; i++) {
            n.cons(1, 0, 9);
        }
        due("the 512th call behind 511 pairs", n.about(2), 8);
    }

    private static void numbersOnTheBounds() {
        sentence("Terms", "NUMBERS -2^58 .. 2^58 - 1");
        long[] numbers = {LEAST, LEAST + 1, LEAST + 2, -5, -4, -3, -2, -1, 0, 1, 2, 3, 4, GREATEST - 1, GREATEST};
        for (long v : numbers) {
            Run held = m -> m.number(0, v);
            due(v + " in a root", after(held).value(0), v);
            due(v + " as a first", after(held, m -> m.cons(1, 0, 9), m -> m.first(2, 1)).value(2), v);
            due(v + " as a rest", after(held, m -> m.cons(1, 9, 0), m -> m.rest(2, 1)).value(2), v);
            due(v + " in two words", dump(after(held, m -> m.cons(1, 0, 0))), "2:1:" + v + " 3:1:" + v);
            due(v + " in a moved pair", dump(after(held, m -> m.list(1, 0, 1), m -> m.setRest(1, 0))),
                    "1:3:1 2:1:" + v + " 3:1:" + v);
            due(v + " collected", dump(after(held, m -> m.cons(1, 0, 0), m -> m.collect())), "2:1:" + v + " 3:1:" + v);
            due(v + " in a root, collected", after(held, m -> m.collect()).value(0), v);
            due(v + " alike itself", after(held, m -> m.number(1, v)).alike(0, 1), true);
        }
    }

    private static void numbersOutOfBounds() {
        sentence("Promise 2", "IllegalArgumentException if it is none.");
        for (long v : NO_NUMBERS) {
            refused("number(0, " + v + ") on a number", IllegalArgumentException.class, MIXED, m -> m.number(0, v));
            refused("number(2, " + v + ") on a pair", IllegalArgumentException.class, MIXED, m -> m.number(2, v));
            refused("number(9, " + v + ") on nil", IllegalArgumentException.class, MIXED, m -> m.number(9, v));
        }
    }

    private static void sameValues() {
        sentence("Terms", "Two values are the SAME if they are one pair, or both nil, or the same number.");
        long[] numbers = {LEAST, LEAST + 1, -1, 0, 1, 2, GREATEST - 1, GREATEST};
        for (long v : numbers) {
            for (long w : numbers) {
                due(v + " and " + w, after(m -> m.number(0, v), m -> m.number(1, w)).same(0, 1), v == w);
            }
            Run held = m -> m.number(0, v);
            due(v + " and nil", after(held).same(0, 1), false);
            due("nil and " + v, after(held).same(1, 0), false);
            due(v + " and the pair at 0", after(held, m -> m.cons(1, 0, 0)).same(0, 1), false);
            due("the pair at 2 and " + v, after(held, m -> m.list(1, 0, 2), m -> m.cons(1, 0, 0)).same(1, 0), false);
        }
        due("nil and nil", new ListMemory().same(0, 9), true);
        due("nil and the pair at 0", after(m -> m.cons(1, 0, 0)).same(0, 1), false);
        due("pairs side by side", after(m -> m.list(1, 0, 1), m -> m.list(2, 0, 1)).same(1, 2), false);
        due("a pair and itself", after(m -> m.list(1, 0, 1), m -> m.copy(2, 1)).same(1, 2), true);
        due("a pair and its rest", after(m -> m.list(1, 0, 2), m -> m.rest(2, 1)).same(1, 2), false);
        due("one pair by two ways", after(m -> m.list(1, 0, 2), m -> m.rest(2, 1), m -> m.rest(3, 1)).same(2, 3), true);
        due("one pair before and after it moved", after(MIXED, m -> m.rest(6, 2)).same(3, 6), true);
        due("a moved pair and the one in the word behind its old cell",
                after(m -> m.list(1, 0, 2), m -> m.rest(2, 1), m -> m.setRest(1, 1)).same(1, 2), false);
    }

    private static void rootsOnTheBounds() {
        sentence("Terms", "There are ROOTS 0 .. 9, each holding a value (nil at first).");
        ListMemory m = new ListMemory();
        for (int r = 0; r <= 9; r++) {
            due("root " + r + " at first", m.kind(r), 0);
        }
        for (int r = 0; r <= 9; r++) {
            m.number(r, r + 100);
        }
        for (int r = 0; r <= 9; r++) {
            due("root " + r, m.value(r), r + 100L);
        }
        for (Map.Entry<String, RootCall> call : rootCalls().entrySet()) {
            for (int r = 0; r <= 9; r += 9) {
                int root = r;
                String got = outcomeOf(after(n -> n.cons(0, 1, 1), n -> n.copy(9, 0)), n -> call.getValue().make(n, root));
                due(call.getKey() + " with " + root, got.equals("NoSuchElementException"), false);
            }
        }
    }

    /** Each place at which a call takes a root, the others being roots that there are. */
    private static Map<String, RootCall> rootCalls() {
        Map<String, RootCall> calls = new LinkedHashMap<>();
        calls.put("number(r, 1)", (m, r) -> m.number(r, 1));
        calls.put("drop(r)", (m, r) -> m.drop(r));
        calls.put("copy(r, 0)", (m, r) -> m.copy(r, 0));
        calls.put("copy(0, r)", (m, r) -> m.copy(0, r));
        calls.put("cons(r, 0, 0)", (m, r) -> m.cons(r, 0, 0));
        calls.put("cons(0, r, 0)", (m, r) -> m.cons(0, r, 0));
        calls.put("cons(0, 0, r)", (m, r) -> m.cons(0, 0, r));
        calls.put("list(r, 0, 1)", (m, r) -> m.list(r, 0, 1));
        calls.put("list(0, r, 1)", (m, r) -> m.list(0, r, 1));
        calls.put("first(r, 0)", (m, r) -> m.first(r, 0));
        calls.put("first(0, r)", (m, r) -> m.first(0, r));
        calls.put("rest(r, 0)", (m, r) -> m.rest(r, 0));
        calls.put("rest(0, r)", (m, r) -> m.rest(0, r));
        calls.put("setFirst(r, 0)", (m, r) -> m.setFirst(r, 0));
        calls.put("setFirst(0, r)", (m, r) -> m.setFirst(0, r));
        calls.put("setRest(r, 0)", (m, r) -> m.setRest(r, 0));
        calls.put("setRest(0, r)", (m, r) -> m.setRest(0, r));
        calls.put("append(r, 0, 0)", (m, r) -> m.append(r, 0, 0));
        calls.put("append(0, r, 0)", (m, r) -> m.append(0, r, 0));
        calls.put("append(0, 0, r)", (m, r) -> m.append(0, 0, r));
        calls.put("kind(r)", (m, r) -> m.kind(r));
        calls.put("value(r)", (m, r) -> m.value(r));
        calls.put("same(r, 0)", (m, r) -> m.same(r, 0));
        calls.put("same(0, r)", (m, r) -> m.same(0, r));
        calls.put("length(r)", (m, r) -> m.length(r));
        calls.put("words(r)", (m, r) -> m.words(r));
        calls.put("alike(r, 0)", (m, r) -> m.alike(r, 0));
        calls.put("alike(0, r)", (m, r) -> m.alike(0, r));
        return calls;
    }

    private static void rootsOutOfBounds() {
        sentence("Terms", "NoSuchElementException if there is no such root");
        for (Map.Entry<String, RootCall> call : rootCalls().entrySet()) {
            for (int r : NO_ROOTS) {
                String told = call.getKey() + " with " + r;
                Run made = m -> call.getValue().make(m, r);
                refused(told, NoSuchElementException.class, all(MIXED, m -> m.copy(0, 2)), made);
            }
        }
    }

    private static void rootsAheadOfAllElse() {
        sentence("Terms", "ahead of all else");
        Run full = all(kept(SIZE), m -> m.number(1, 1), m -> m.drop(9));
        for (int r : NO_ROOTS) {
            Class<?> none = NoSuchElementException.class;
            refused("no number, root " + r, none, full, m -> m.number(r, GREATEST + 1));
            refused("cons without room, root " + r, none, full, m -> m.cons(r, 1, 1));
            refused("cons without room, first " + r, none, full, m -> m.cons(1, r, 1));
            refused("cons without room, rest " + r, none, full, m -> m.cons(1, 1, r));
            refused("list without room, root " + r, none, full, m -> m.list(r, 1, 1));
            refused("list without room, from " + r, none, full, m -> m.list(1, r, 1));
            refused("list of none, root " + r, none, full, m -> m.list(r, 1, 0));
            refused("list of none, from " + r, none, full, m -> m.list(1, r, 0));
            refused("list of eleven, root " + r, none, full, m -> m.list(r, 1, 11));
            refused("list of eleven, from " + r, none, full, m -> m.list(1, r, 11));
            refused("list too far, root " + r, none, full, m -> m.list(r, 9, 2));
            refused("first of no pair, root " + r, none, full, m -> m.first(r, 1));
            refused("rest of no pair, root " + r, none, full, m -> m.rest(r, 9));
            refused("setFirst of no pair, v " + r, none, full, m -> m.setFirst(1, r));
            refused("setRest of no pair, v " + r, none, full, m -> m.setRest(9, r));
            refused("setRest, v " + r, none, full, m -> m.setRest(8, r));
            refused("append of a number, root " + r, none, full, m -> m.append(r, 1, 1));
            refused("append of a number, b " + r, none, full, m -> m.append(1, 1, r));
            refused("append of nil, b " + r, none, full, m -> m.append(1, 9, r));
            refused("append of nil, root " + r, none, full, m -> m.append(r, 9, 1));
        }
        Run fullOfLists = all(straight(SIZE / 2), m -> m.append(2, 1, 9));
        for (int r : NO_ROOTS) {
            refused("append without room, root " + r, NoSuchElementException.class, fullOfLists, m -> m.append(r, 1, 1));
            refused("append without room, b " + r, NoSuchElementException.class, fullOfLists, m -> m.append(1, 1, r));
        }
    }

    private static void halvesFull() {
        sentence("Terms", "There are two HALVES of 120 WORDS; one is used");
        for (int collections = 0; collections <= 3; collections++) {
            int times = collections;
            Run again = m -> {
                for (int i = 0; i < times; i++) {
                    m.collect();
                }
            };
            String told = " behind " + times + " collections";
            due("118 and two" + told, after(kept(118), again, m -> m.cons(1, 0, 0)).about(0), 120);
            due("118 and two" + told + ", collections", after(kept(118), again, m -> m.cons(1, 0, 0)).about(2), times);
            due("119 and one" + told, after(kept(119), again, m -> m.list(1, 0, 1)).about(0), 120);
            due("119 and one" + told + ", collections", after(kept(119), again, m -> m.list(1, 0, 1)).about(2), times);
            due("the last word" + told, after(kept(120), again).word(119, 0) >= 0, true);
            refusedForRoom("119 and two" + told, all(kept(119), again), m -> m.cons(1, 0, 0));
            refusedForRoom("120 and one" + told, all(kept(120), again), m -> m.list(1, 0, 1));
        }
    }

    private static void wordsUpToThoseUsed() {
        sentence("Terms", "its words 0, 1, .. up to how many are USED");
        for (int used = 0; used <= SIZE; used++) {
            int many = used;
            ListMemory m = after(n -> waste(n, many));
            due("words used", m.about(0), many);
            due("the first of " + many, outcome(m, n -> n.word(0, 0) >= 0), many > 0 ? "true" : "IndexOutOfBoundsException");
            due("the last of " + many, outcome(m, n -> n.word(many - 1, 0)), many > 0 ? "1" : "IndexOutOfBoundsException");
            due("the one behind " + many, outcome(m, n -> n.word(many, 0)), "IndexOutOfBoundsException");
        }
    }

    private static void cellsAtTheEndOfTheHalf() {
        sentence("Terms", "A CELL is a word with the code NEXT (0), END (1) or PAIR (2), and, with PAIR, the word behind it, "
                + "whose code is SECOND (3).");
        ListMemory m = after(kept(118), n -> n.number(1, 8), n -> n.list(2, 0, 2), n -> n.rest(3, 2));
        due("NEXT in the last word but one", m.word(118, 0) + ":" + m.word(118, 2), "0:7");
        due("END in the last word", m.word(119, 0) + ":" + m.word(119, 2), "1:8");
        due("its length", m.length(2), 2);
        due("its words", m.words(2), 2);
        m.first(4, 3);
        due("the first of the last cell", m.value(4), 8L);
        m.rest(4, 3);
        due("the rest of the last cell", m.kind(4), 0);
        m.setFirst(3, 0);
        due("setFirst of the last cell", m.word(119, 2), 7L);

        ListMemory n = after(kept(118), k -> k.number(1, 8), k -> k.cons(2, 0, 1));
        due("PAIR in the last word but one", n.word(118, 0) + ":" + n.word(118, 2), "2:7");
        due("SECOND in the last word", n.word(119, 0) + ":" + n.word(119, 2), "3:8");
        n.rest(4, 2);
        due("the rest from the last word", n.value(4), 8L);
        n.setRest(2, 2);
        due("setRest to the last word", n.word(119, 1) + ":" + n.word(119, 2), "2:118");
        due("its length then", n.length(2), -2);

        ListMemory k = after(kept(117), l -> l.list(2, 0, 1), l -> l.setRest(2, 0));
        due("moved to the last two words", k.word(117, 1) + ":" + k.word(117, 2), "3:118");
        due("collections", k.about(2), 0);
    }

    private static void movedCells() {
        sentence("Terms", "A cell whose content is moved to a place is only passed through: its pair has the cell at that place.");
        ListMemory m = after(MIXED);
        due("the words", dump(m), "0:1:7 1:3:2 2:1:8 3:1:7 2:2:0 3:0:0 1:3:7 2:0:0 3:2:6");
        m.first(6, 3);
        due("its first", m.value(6), 8L);
        m.rest(6, 3);
        due("its rest, no longer by the old code", m.value(6), 7L);
        m.rest(6, 2);
        due("from the one before", m.same(6, 3), true);
        m.rest(6, 5);
        due("from itself", m.same(6, 5), true);
        m.setFirst(3, 0);
        due("the word passed through stays", m.word(1, 1) + ":" + m.word(1, 2), "3:2");
        due("the pair's own word", m.word(2, 2), 7L);
    }

    private static void placesThatAreTold() {
        sentence("Terms", "A value that is a pair tells a place: where the pair's cell was when the value came about (by cons, "
                + "list, append, by a rest with NEXT, by a collection)");
        Run three = m -> waste(m, 3);
        Run seen = m -> m.cons(9, 1, 9);
        due("by cons", after(three, m -> m.cons(1, 0, 0), seen).word(5, 2), 3L);
        due("by list", after(three, m -> m.list(1, 0, 3), seen).word(6, 2), 3L);
        due("by append", after(m -> m.list(2, 0, 2), three, m -> m.append(1, 2, 9), seen).word(7, 2), 5L);
        due("by append to a value", after(m -> m.list(2, 0, 2), three, m -> m.append(1, 2, 2), seen).word(8, 2), 5L);
        due("by a rest with NEXT", after(three, m -> m.list(2, 0, 2), m -> m.rest(1, 2), seen).word(5, 2), 4L);
        due("by the rest of a rest", after(three, m -> m.list(2, 0, 3), m -> m.rest(1, 2), m -> m.rest(1, 1), seen).word(6, 2), 5L);
        due("by a collection, in a root", after(three, m -> m.list(1, 0, 3), m -> m.collect(), seen).word(3, 2), 0L);
        due("by a collection, in a word", dump(after(three, m -> m.list(1, 0, 1), m -> m.cons(1, 1, 1), m -> m.collect())),
                "0:2:1 1:0:0");
        due("by a collection, of a moved pair",
                dump(after(three, m -> m.list(1, 0, 1), m -> m.setRest(1, 1), m -> m.cons(2, 1, 1), m -> m.collect())),
                "0:2:1 2:0:0 3:2:1");
    }

    private static void placesHandedOn() {
        sentence("Terms", "handed on, it tells that place still");
        // Root 1 tells 0, but its pair's cell is at 1.
        Run moved = all(m -> m.list(1, 0, 1), m -> m.setRest(1, 1), m -> m.drop(2));
        due("by copy", after(moved, m -> m.copy(2, 1), m -> m.list(3, 2, 1)).word(3, 2), 0L);
        due("by cons, as a first", after(moved, m -> m.cons(2, 1, 9)).word(3, 2), 0L);
        due("by cons, as a rest", after(moved, m -> m.cons(2, 9, 1)).word(4, 2), 0L);
        due("by list", after(moved, m -> m.list(2, 1, 1)).word(3, 2), 0L);
        due("by first", after(moved, m -> m.cons(2, 1, 9), m -> m.first(3, 2), m -> m.list(4, 3, 1)).word(5, 2), 0L);
        due("by a rest with PAIR", after(moved, m -> m.rest(3, 1), m -> m.list(4, 3, 1)).word(3, 2), 0L);
        due("by setFirst", after(moved, m -> m.setFirst(1, 1)).word(1, 2), 0L);
        due("by setRest with PAIR", after(moved, m -> m.cons(2, 9, 9), m -> m.setRest(2, 1)).word(4, 2), 0L);
        due("by setRest that moves", after(moved, m -> m.list(2, 9, 1), m -> m.setRest(2, 1)).word(5, 2), 0L);
        due("by a first that moves along", after(moved, m -> m.list(2, 1, 1), m -> m.setRest(2, 2)).word(4, 2), 0L);
        due("by append, as a first", after(moved, m -> m.list(2, 1, 1), m -> m.append(3, 2, 9)).word(4, 2), 0L);
        due("by append, as its end", after(moved, m -> m.list(2, 9, 1), m -> m.append(3, 2, 1)).word(5, 2), 0L);
        due("by append of nil", after(moved, m -> m.append(3, 9, 1), m -> m.list(4, 3, 1)).word(3, 2), 0L);
    }

    /** The document can be read either way where the word behind is moved: see README.md. */
    private static void placesOfTheWordBehind() {
        sentence("Terms", "with NEXT the pair whose cell is the word behind it");
        Run seen = m -> m.list(9, 4, 1);
        Run list = all(m -> m.list(2, 0, 2), m -> m.rest(3, 2));
        due("before it moves", after(list, m -> m.rest(4, 2), m -> m.setRest(3, 2), seen).word(4, 2), 1L);
        due("when it has moved", after(list, m -> m.setRest(3, 2), m -> m.rest(4, 2), seen).word(4, 2), 1L);
    }

    private static void newWords() {
        sentence("Terms", "NEW words are taken behind those used.");
        Run mixed = MIXED;
        String words = dump(after(mixed));
        due("by cons", dump(after(mixed, m -> m.cons(9, 0, 1))), words + " 2:1:7 3:1:8");
        due("by list", dump(after(mixed, m -> m.list(9, 0, 1))), words + " 1:1:7");
        due("by setRest", dump(after(mixed, m -> m.setRest(2, 0))), words.replaceFirst("0:1:7", "0:3:9") + " 2:1:7 3:1:7");
        due("by append", dump(after(mixed, m -> m.append(9, 4, 9))), words + " 1:2:0");
        due("by append to a value", dump(after(mixed, m -> m.append(9, 4, 0))), words + " 2:2:0 3:1:7");
        due("though none is reached", after(mixed, m -> m.drop(2), m -> m.drop(3), m -> m.drop(4), m -> m.drop(5),
                m -> m.list(9, 0, 1)).about(0), 10);
    }

    private static void roomMadeFirst() {
        sentence("Terms", "If a call needs more than are left of the half, a COLLECTION is made first");
        // Root 1 has (7 7), in three words behind five wasted ones, and in two once it is collected.
        Run reached = all(m -> m.number(0, 7), m -> waste(m, 5), m -> m.list(1, 0, 1), m -> m.cons(1, 0, 1));
        Run[] calls = {m -> m.cons(2, 0, 1), m -> m.list(2, 0, 2), m -> m.append(2, 1, 9)};
        String[] words = {" 2:1:7 3:2:0", " 0:1:7 1:2:0", " 0:1:7 1:1:7"};
        for (int i = 0; i < calls.length; i++) {
            Run twoLeft = all(reached, m -> waste(m, 110));
            Run oneLeft = all(reached, m -> waste(m, 111));
            Run noneLeft = all(reached, m -> waste(m, 112));
            due("call " + i + ", just so many left, used", after(twoLeft, calls[i]).about(0), SIZE);
            due("call " + i + ", just so many left, collections", after(twoLeft, calls[i]).about(2), 0);
            due("call " + i + ", one too few left", dump(after(oneLeft, calls[i])), "0:1:7 1:1:7" + words[i]);
            due("call " + i + ", one too few left, collections", after(oneLeft, calls[i]).about(2), 1);
            due("call " + i + ", none left", dump(after(noneLeft, calls[i])), "0:1:7 1:1:7" + words[i]);
            due("call " + i + ", none left, collections", after(noneLeft, calls[i]).about(2), 1);
        }
        Run list = all(m -> m.number(0, 7), m -> waste(m, 5), m -> m.list(1, 0, 1));
        due("setRest, just so many left", after(list, m -> waste(m, 112), m -> m.setRest(1, 0)).about(2), 0);
        due("setRest, one too few left", dump(after(list, m -> waste(m, 113), m -> m.setRest(1, 0))), "1:3:1 2:1:7 3:1:7");
        due("setRest, none left", dump(after(list, m -> waste(m, 114), m -> m.setRest(1, 0))), "1:3:1 2:1:7 3:1:7");
    }

    private static void roomNotMade() {
        sentence("Terms", "if there are not enough then, the call throws UnsupportedOperationException (the collection stays; nothing else changes)");
        // All words are used, one of them by a moved pair: a collection leaves just that one.
        Run tight = all(m -> m.number(0, 7), m -> m.list(1, 0, 2), m -> m.rest(2, 1), m -> m.setRest(2, 1), m -> m.list(3, 0, 1), kept(115));
        due("words used before", after(tight).about(0), SIZE);
        due("words used when collected", after(tight, m -> m.collect()).about(0), SIZE - 1);
        Run full = all(tight, m -> m.list(5, 0, 1));
        due("words used with one more", after(full).about(0), SIZE);
        due("words used with one more when collected", after(full, m -> m.collect()).about(0), SIZE);
        refusedForRoom("cons, one word", tight, m -> m.cons(1, 1, 1));
        refusedForRoom("list of two, one word", tight, m -> m.list(1, 0, 2));
        refusedForRoom("setRest, one word", tight, m -> m.setRest(3, 0));
        refusedForRoom("append of one to a number, one word", tight, m -> m.append(3, 3, 0));
        refusedForRoom("list of one, no word", full, m -> m.list(1, 0, 1));
        refusedForRoom("append of one to nil, no word", full, m -> m.append(3, 3, 9));
        due("list of one, one word", outcomeOf(after(tight), m -> m.list(1, 0, 1)), "nothing");
        due("append of one to nil, one word", outcomeOf(after(tight), m -> m.append(3, 3, 9)), "nothing");
    }

    private static void throwingChangesNothing() {
        sentence("Terms", "A call that throws changes nothing, but for a collection.");
        Run full = all(MIXED, m -> m.copy(6, 0), kept(110), m -> waste(m, 1));
        due("words used", after(full).about(0), SIZE);
        for (Run scene : new Run[] {MIXED, full}) {
            refused("number", IllegalArgumentException.class, scene, m -> m.number(2, GREATEST + 1));
            refused("list", IllegalArgumentException.class, scene, m -> m.list(2, 9, 2));
            refused("first", IllegalStateException.class, scene, m -> m.first(2, 0));
            refused("rest", IllegalStateException.class, scene, m -> m.rest(2, 0));
            refused("setFirst", IllegalStateException.class, scene, m -> m.setFirst(0, 2));
            refused("setRest", IllegalStateException.class, scene, m -> m.setRest(0, 2));
            refused("append", IllegalStateException.class, scene, m -> m.append(2, 2, 2));
            refused("value", IllegalStateException.class, scene, m -> m.value(2));
            refused("word", IndexOutOfBoundsException.class, scene, m -> m.word(-1, 0));
            refused("word of another what", IllegalArgumentException.class, scene, m -> m.word(0, 3));
            refused("cons", NoSuchElementException.class, scene, m -> m.cons(2, 2, 10));
        }
    }
}
