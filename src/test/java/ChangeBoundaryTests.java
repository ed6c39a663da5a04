import java.util.NoSuchElementException;

/** The bounds of what changes roots and words: promises 1 and 3 to 11. */
public final class ChangeBoundaryTests extends Boundaries {
    public static void main(String[] args) {
        make(
                ChangeBoundaryTests::newObject,
                ChangeBoundaryTests::dropped,
                ChangeBoundaryTests::copied,
                ChangeBoundaryTests::consRoom,
                ChangeBoundaryTests::consOfOneRoot,
                ChangeBoundaryTests::listWords,
                ChangeBoundaryTests::listRoom,
                ChangeBoundaryTests::listManyOutOfBounds,
                ChangeBoundaryTests::listRootsOutOfBounds,
                ChangeBoundaryTests::listBehindNoSuchRoot,
                ChangeBoundaryTests::firstOfEachCell,
                ChangeBoundaryTests::firstOfNoPair,
                ChangeBoundaryTests::restOfEachCell,
                ChangeBoundaryTests::restOfNoPair,
                ChangeBoundaryTests::setFirstWhereTheCellIs,
                ChangeBoundaryTests::setFirstOfNoPair,
                ChangeBoundaryTests::setRestTheSameAlready,
                ChangeBoundaryTests::setRestWithPair,
                ChangeBoundaryTests::setRestMoves,
                ChangeBoundaryTests::setRestRoom,
                ChangeBoundaryTests::setRestByTheCodeThen,
                ChangeBoundaryTests::setRestOfNoPair,
                ChangeBoundaryTests::appendWords,
                ChangeBoundaryTests::appendRoom,
                ChangeBoundaryTests::appendLargest,
                ChangeBoundaryTests::appendOfNil,
                ChangeBoundaryTests::appendBelowZero);
    }

    private static void newObject() {
        sentence("Promise 1", "All roots nil, no words used.");
        for (int r = 0; r <= 9; r++) {
            int root = r;
            due("root " + r, after(m -> { }).kind(root), 0);
            due("length of root " + r, after(m -> { }).length(root), 0);
            due("words of root " + r, after(m -> { }).words(root), 0);
        }
        due("words used", new ListMemory().about(0), 0);
        due("words moved", new ListMemory().about(1), 0);
        due("collections", new ListMemory().about(2), 0);
        due("collected", new ListMemory().collect(), 0);
        due("word 0", outcome(new ListMemory(), m -> m.word(0, 0)), "IndexOutOfBoundsException");
        ListMemory one = after(MIXED);
        due("one made behind another", new ListMemory().about(0), 0);
        due("the other one stays", one.about(0), 9);
    }

    private static void dropped() {
        sentence("Promise 3", "A root holds nil.");
        for (int r = 0; r <= 9; r++) {
            int root = r;
            ListMemory m = after(MIXED, n -> n.drop(root));
            due("root " + r, m.kind(root), 0);
            due("the words stay", m.about(0), 9);
        }
        unchanged("drop of nil", MIXED, m -> m.drop(9));
    }

    private static void copied() {
        sentence("Promise 4", "A root holds what another one holds.");
        for (int from = 0; from <= 9; from++) {
            int source = from;
            due("copy(9, " + from + ")", after(MIXED, m -> m.copy(9, source)).same(9, source), true);
            unchanged("copy of " + from + " to itself", MIXED, m -> m.copy(source, source));
        }
    }

    private static void consRoom() {
        sentence("Promise 5", "two new words, with PAIR");
        room("cons", 0, 2, m -> m.number(0, 7), m -> m.cons(1, 0, 9));
        room("cons of a pair in the last root", 1, 2, all(m -> m.number(0, 7), m -> m.list(7, 0, 1)), m -> m.cons(1, 7, 7));
        Run full = all(m -> m.number(0, 7), m -> m.list(1, 0, 1), m -> waste(m, SIZE - 1));
        due("what it is made of is collected first", dump(after(full, m -> m.cons(2, 1, 1))), "1:1:7 2:2:0 3:2:0");
        due("the root's own pair is reached still", dump(after(full, m -> m.cons(1, 0, 0))), "1:1:7 2:1:7 3:1:7");
        due("though the rest is nil", dump(after(m -> m.cons(1, 0, 9))), "2:0:0 3:0:0");
        due("though the rest lies in front", dump(after(m -> m.list(1, 0, 1), m -> m.cons(1, 0, 1))), "1:0:0 2:0:0 3:2:0");
    }

    private static void consOfOneRoot() {
        sentence("Promise 5", "A root holds a new pair of what the roots first and rest hold");
        due("one root three times", dump(after(m -> m.cons(0, 0, 0), m -> m.cons(0, 0, 0))), "2:0:0 3:0:0 2:2:0 3:2:0");
        due("no pair made before", after(m -> m.cons(0, 0, 0), m -> m.copy(1, 0), m -> m.cons(0, 0, 0)).same(0, 1), false);
    }

    private static void listWords() {
        sentence("Promise 6", "a new word for each, NEXT and at last END");
        due("of one", dump(after(m -> m.number(9, 5), m -> m.list(0, 9, 1))), "1:1:5");
        due("of two", dump(after(m -> m.number(9, 5), m -> m.list(0, 8, 2))), "0:0:0 1:1:5");
        Run numbered = m -> {
            for (int r = 0; r <= 9; r++) {
                m.number(r, r);
            }
        };
        for (int many = 1; many <= 10; many++) {
            int n = many;
            StringBuilder words = new StringBuilder();
            for (int i = 0; i < many; i++) {
                words.append(i == 0 ? "" : " ").append(i == many - 1 ? "1:1:" : "0:1:").append(10 - many + i);
            }
            due("the last " + many, dump(after(numbered, m -> m.list(0, 10 - n, n))), words.toString());
            due("the length of the first " + many, after(numbered, m -> m.list(0, 0, n)).length(0), many);
        }
        due("of a root's own list", dump(after(m -> m.list(0, 0, 1), m -> m.list(0, 0, 1))), "1:0:0 1:2:0");
    }

    private static void listRoom() {
        sentence("Promise 6", "a new word for each");
        for (int many = 1; many <= 10; many++) {
            int n = many;
            room("list of " + many, 0, many, m -> m.number(0, 7), m -> m.list(1, 0, n));
        }
        Run full = all(m -> m.number(0, 7), m -> m.list(1, 0, 1), m -> waste(m, SIZE - 1));
        due("what it is made of is collected first", dump(after(full, m -> m.list(3, 1, 2))), "1:1:7 0:2:0 1:0:0");
    }

    private static void listManyOutOfBounds() {
        sentence("Promise 6", "IllegalArgumentException if many is not 1 .. 10");
        int[] manies = {0, -1, 11, 12, -10, Integer.MIN_VALUE, Integer.MIN_VALUE + 1, Integer.MAX_VALUE};
        for (int many : manies) {
            refused("list(1, 0, " + many + ")", IllegalArgumentException.class, MIXED, m -> m.list(1, 0, many));
            refused("list(1, 9, " + many + ")", IllegalArgumentException.class, MIXED, m -> m.list(1, 9, many));
            refused("list(1, 0, " + many + ") without room", IllegalArgumentException.class, kept(SIZE), m -> m.list(1, 0, many));
        }
        due("one", outcomeOf(new ListMemory(), m -> m.list(1, 0, 1)), "nothing");
        due("ten", outcomeOf(new ListMemory(), m -> m.list(1, 0, 10)), "nothing");
    }

    private static void listRootsOutOfBounds() {
        sentence("Promise 6", "or the roots don't go so far");
        for (int from = 0; from <= 9; from++) {
            for (int many = 1; many <= 10; many++) {
                int f = from;
                int n = many;
                String call = "list(1, " + from + ", " + many + ")";
                if (from + many <= 10) {
                    due(call, outcomeOf(new ListMemory(), m -> m.list(1, f, n)), "nothing");
                } else {
                    refused(call, IllegalArgumentException.class, MIXED, m -> m.list(1, f, n));
                }
            }
        }
        refused("list(1, 9, 2) without room", IllegalArgumentException.class, kept(SIZE), m -> m.list(1, 9, 2));
        refused("list(1, 9, 2147483647), whose sum wraps around", IllegalArgumentException.class, kept(SIZE),
                m -> m.list(1, 9, Integer.MAX_VALUE));
    }

    private static void listBehindNoSuchRoot() {
        sentence("Promise 6", "(this behind NoSuchElementException)");
        int[] manies = {0, -1, 11, Integer.MIN_VALUE, Integer.MAX_VALUE};
        for (int many : manies) {
            for (int r : NO_ROOTS) {
                refused("list(" + r + ", 0, " + many + ")", NoSuchElementException.class, MIXED, m -> m.list(r, 0, many));
                refused("list(0, " + r + ", " + many + ")", NoSuchElementException.class, MIXED, m -> m.list(0, r, many));
            }
        }
        refused("list(10, 9, 2)", NoSuchElementException.class, MIXED, m -> m.list(10, 9, 2));
        refused("list(0, 10, 1)", NoSuchElementException.class, MIXED, m -> m.list(0, 10, 1));
    }

    private static void firstOfEachCell() {
        sentence("Promise 7", "A root holds the first of the pair that another one holds.");
        due("with NEXT", after(MIXED, m -> m.first(9, 2)).value(9), 7L);
        due("with END", after(m -> m.number(0, 5), m -> m.list(1, 0, 1), m -> m.first(9, 1)).value(9), 5L);
        due("with PAIR", after(MIXED, m -> m.first(9, 4)).same(9, 2), true);
        due("moved", after(MIXED, m -> m.first(9, 3)).value(9), 8L);
        due("nil", after(MIXED, m -> m.first(4, 5)).kind(4), 0);
        due("of the root itself", after(MIXED, m -> m.first(4, 4)).same(4, 2), true);
        due("no new words", after(kept(SIZE), m -> m.first(1, 8)).about(2), 0);
    }

    private static void firstOfNoPair() {
        sentence("Promise 7", "IllegalStateException if that holds none.");
        refused("first of a number", IllegalStateException.class, MIXED, m -> m.first(2, 0));
        refused("first of nil", IllegalStateException.class, MIXED, m -> m.first(2, 9));
        refused("first of a number, by itself", IllegalStateException.class, MIXED, m -> m.first(1, 1));
        refused("first of the number 0", IllegalStateException.class, all(MIXED, m -> m.number(0, 0)), m -> m.first(2, 0));
    }

    private static void restOfEachCell() {
        sentence("Promise 8", "A root holds the rest of the pair that another one holds.");
        due("with NEXT", after(MIXED, m -> m.rest(9, 2)).same(9, 3), true);
        due("with END", after(m -> m.number(0, 5), m -> m.list(1, 0, 1), m -> m.rest(0, 1)).kind(0), 0);
        due("with PAIR, nil", after(MIXED, m -> m.rest(0, 4)).kind(0), 0);
        due("moved, a number", after(MIXED, m -> m.rest(9, 3)).value(9), 7L);
        due("moved, itself", after(MIXED, m -> m.rest(9, 5)).same(9, 5), true);
        due("of the root itself", after(MIXED, m -> m.rest(2, 2)).same(2, 3), true);
        due("no new words", after(kept(SIZE), m -> m.rest(1, 8)).about(2), 0);
    }

    private static void restOfNoPair() {
        sentence("Promise 8", "IllegalStateException if that holds none.");
        refused("rest of a number", IllegalStateException.class, MIXED, m -> m.rest(2, 0));
        refused("rest of nil", IllegalStateException.class, MIXED, m -> m.rest(2, 9));
        refused("rest of a number, by itself", IllegalStateException.class, MIXED, m -> m.rest(1, 1));
        refused("rest of the number 0", IllegalStateException.class, all(MIXED, m -> m.number(0, 0)), m -> m.rest(2, 0));
    }

    private static void setFirstWhereTheCellIs() {
        sentence("Promise 9", "The first of the pair that a root holds becomes what root v holds. (Wherever its cell is now.)");
        String words = dump(after(MIXED));
        due("with NEXT", dump(after(MIXED, m -> m.setFirst(2, 1))), words.replaceFirst("^0:1:7", "0:1:8"));
        due("moved", dump(after(MIXED, m -> m.setFirst(3, 9))), words.replace("3:2 2:1:8", "3:2 2:0:0"));
        due("with PAIR, to itself", dump(after(MIXED, m -> m.setFirst(4, 4))), words.replace("2:2:0", "2:2:4"));
        due("a round, to itself", dump(after(MIXED, m -> m.setFirst(5, 5))), words.replace("2:0:0", "2:2:6"));
        due("after a collection", dump(after(MIXED, m -> m.collect(), m -> m.setFirst(3, 9))),
                "0:1:7 2:0:0 3:1:7 1:2:0 2:0:0 3:2:4");
        ListMemory full = after(kept(SIZE), m -> m.setFirst(8, 0));
        due("needs no words", full.about(2), 0);
        due("in a full half", full.word(118, 2), 7L);
    }

    private static void setFirstOfNoPair() {
        sentence("Promise 9", "IllegalStateException if it holds none.");
        refused("setFirst of a number", IllegalStateException.class, MIXED, m -> m.setFirst(0, 2));
        refused("setFirst of nil", IllegalStateException.class, MIXED, m -> m.setFirst(9, 2));
        refused("setFirst of nil to nil", IllegalStateException.class, MIXED, m -> m.setFirst(9, 9));
        refused("setFirst of a number in a full half", IllegalStateException.class, kept(SIZE), m -> m.setFirst(0, 8));
    }

    private static void setRestTheSameAlready() {
        sentence("Promise 10", "nothing is done if that is the same already");
        Run list = all(m -> m.number(0, 7), m -> m.list(1, 0, 2), m -> m.rest(2, 1));
        unchanged("with NEXT", list, m -> m.setRest(1, 2));
        unchanged("with END", list, m -> m.setRest(2, 9));
        unchanged("with PAIR, a number", MIXED, m -> m.setRest(3, 0));
        unchanged("with PAIR, nil", MIXED, m -> m.setRest(4, 9));
        unchanged("with PAIR, itself", MIXED, m -> m.setRest(5, 5));
        unchanged("with NEXT, to a moved pair", MIXED, m -> m.setRest(2, 3));
        Run full = all(list, kept(SIZE - 2));
        unchanged("with NEXT in a full half", full, m -> m.setRest(1, 2));
        unchanged("with END in a full half", full, m -> m.setRest(2, 9));
        unchanged("with PAIR in a full half", full, m -> m.setRest(8, 0));
    }

    private static void setRestWithPair() {
        sentence("Promise 10", "with PAIR the second word has it");
        due("a number", dump(after(m -> m.number(0, 7), m -> m.cons(1, 9, 9), m -> m.setRest(1, 0))), "2:0:0 3:1:7");
        due("nil", dump(after(m -> m.number(0, 7), m -> m.cons(1, 9, 0), m -> m.setRest(1, 9))), "2:0:0 3:0:0");
        due("itself", dump(after(m -> m.cons(1, 9, 9), m -> m.setRest(1, 1))), "2:0:0 3:2:0");
        due("another number", dump(after(m -> m.number(0, LEAST), m -> m.number(2, GREATEST), m -> m.cons(1, 9, 0),
                m -> m.setRest(1, 2))), "2:0:0 3:1:" + GREATEST);
        due("where it moved to", dump(after(m -> m.list(1, 9, 1), m -> m.setRest(1, 1), m -> m.setRest(1, 9))), "1:3:1 2:0:0 3:0:0");
        ListMemory full = after(kept(SIZE), m -> m.setRest(8, 8));
        due("in a full half", full.word(119, 1) + ":" + full.word(119, 2), "2:118");
        due("in a full half, collections", full.about(2), 0);
        due("in a full half, words used", full.about(0), SIZE);
    }

    private static void setRestMoves() {
        sentence("Promise 10", "otherwise it needs two new words: the pair moves to them, with PAIR, and its cell's content is moved there");
        Run list = all(m -> m.number(0, 7), m -> m.list(1, 0, 2), m -> m.rest(2, 1));
        due("with NEXT, to nil", dump(after(list, m -> m.setRest(1, 9))), "0:3:2 1:0:0 2:1:7 3:0:0");
        due("with NEXT, to itself", dump(after(list, m -> m.setRest(1, 1))), "0:3:2 1:0:0 2:1:7 3:2:0");
        due("with NEXT, to a number", dump(after(list, m -> m.setRest(1, 0))), "0:3:2 1:0:0 2:1:7 3:1:7");
        due("with END, to the one before", dump(after(list, m -> m.setRest(2, 1))), "0:1:7 1:3:2 2:0:0 3:2:0");
        due("both", dump(after(list, m -> m.setRest(2, 1), m -> m.setRest(1, 9))), "0:3:4 1:3:2 2:0:0 3:2:0 2:1:7 3:0:0");
        due("moved words", after(list, m -> m.setRest(2, 1), m -> m.setRest(1, 9)).about(1), 2);
    }

    private static void setRestRoom() {
        sentence("Promise 10", "otherwise it needs two new words");
        Run seven = m -> m.number(0, 7);
        room("setRest with NEXT", 2, 2, all(seven, m -> m.list(1, 0, 2)), m -> m.setRest(1, 0));
        room("setRest with END", 1, 2, all(seven, m -> m.list(1, 0, 1)), m -> m.setRest(1, 0));
        room("setRest with END to itself", 1, 2, all(seven, m -> m.list(1, 0, 1)), m -> m.setRest(1, 1));
        Run full = all(seven, m -> waste(m, 3), m -> m.list(1, 0, 1), m -> waste(m, SIZE - 4));
        due("it moves from where it lies then", dump(after(full, m -> m.setRest(1, 0))), "1:3:1 2:1:7 3:1:7");
        due("to what lies elsewhere then", dump(after(full, m -> m.setRest(1, 1))), "1:3:1 2:1:7 3:2:0");
    }

    private static void setRestByTheCodeThen() {
        sentence("Promise 10", "(If a collection was made for these, and there are two words then, it goes by the code that the cell has then.)");
        // Roots 2 and 3 end in root 1's pair: root 2 is laid first and so has NEXT, root 3 has PAIR.
        Run shared = all(m -> m.number(0, 7), m -> m.list(3, 0, 2), m -> m.rest(1, 3), m -> m.cons(2, 0, 1));
        due("before", dump(after(shared)), "0:1:7 1:0:0 2:1:7 3:2:1");
        for (int left = 0; left <= 1; left++) {
            int spare = SIZE - 4 - left;
            due("PAIR then, " + left + " left before", dump(after(shared, m -> waste(m, spare), m -> m.setRest(3, 0))),
                    "0:1:7 1:0:0 2:1:7 3:1:7");
        }
        due("NEXT still, two left", after(shared, m -> waste(m, SIZE - 6), m -> m.setRest(3, 0)).about(0), SIZE);
        for (int left = 0; left <= 3; left++) {
            int then = left;
            Run scene = all(shared, kept(SIZE - 4 - left), m -> waste(m, then));
            if (left < 2) {
                refusedForRoom("PAIR then, but " + left + " words", scene, m -> m.setRest(3, 0));
            } else {
                due("PAIR then, " + left + " words, used", after(scene, m -> m.setRest(3, 0)).about(0), SIZE - left);
                due("PAIR then, " + left + " words, moved", after(scene, m -> m.setRest(3, 0)).about(1), 0);
                due("PAIR then, " + left + " words, length", after(scene, m -> m.setRest(3, 0)).length(3), -1);
            }
        }
        // Root 3's pair is a moved one, with PAIR: once collected it would have END, but none is made.
        Run moved = all(m -> m.number(0, 7), m -> m.list(3, 0, 2), m -> m.setRest(3, 9), kept(SIZE - 4));
        due("PAIR before needs no collection", after(moved, m -> m.setRest(3, 0)).about(2), 0);
    }

    private static void setRestOfNoPair() {
        sentence("Promise 10", "IllegalStateException if the root holds no pair.");
        refused("setRest of a number", IllegalStateException.class, MIXED, m -> m.setRest(0, 2));
        refused("setRest of nil", IllegalStateException.class, MIXED, m -> m.setRest(9, 2));
        refused("setRest of nil to nil", IllegalStateException.class, MIXED, m -> m.setRest(9, 9));
        refused("setRest of a number to itself", IllegalStateException.class, MIXED, m -> m.setRest(0, 0));
        refused("setRest of a number in a full half", IllegalStateException.class, kept(SIZE), m -> m.setRest(0, 8));
        refused("setRest of nil in a full half", IllegalStateException.class, kept(SIZE), m -> m.setRest(1, 8));
    }

    private static void appendWords() {
        sentence("Promise 11", "so many new words with NEXT, the last one with END if b holds nil, with PAIR (and b's value in one more word) otherwise");
        Run one = all(m -> m.number(0, 7), m -> m.list(1, 0, 1));
        due("of one to nil", dump(after(one, m -> m.append(2, 1, 9))), "1:1:7 1:1:7");
        due("of one to a number", dump(after(one, m -> m.append(2, 1, 0))), "1:1:7 2:1:7 3:1:7");
        due("of one to itself", dump(after(one, m -> m.append(1, 1, 1))), "1:1:7 2:1:7 3:2:0");
        Run two = all(m -> m.number(0, 7), m -> m.number(1, 8), m -> m.list(1, 0, 2));
        due("of two to nil", dump(after(two, m -> m.append(2, 1, 9))), "0:1:7 1:1:8 0:1:7 1:1:8");
        due("of two to the number 0", dump(after(two, m -> m.number(0, 0), m -> m.append(2, 1, 0))), "0:1:7 1:1:8 0:1:7 2:1:8 3:1:0");
        due("of two to a pair", dump(after(two, m -> m.append(2, 1, 1))), "0:1:7 1:1:8 0:1:7 2:1:8 3:2:0");
        Run pairs = all(m -> m.number(0, 7), m -> m.cons(1, 0, 9), m -> m.cons(1, 0, 1));
        due("of cells with PAIR", dump(after(pairs, m -> m.append(2, 1, 9))), "2:1:7 3:0:0 2:1:7 3:2:0 0:1:7 1:1:7");
        Run moved = all(two, m -> m.rest(2, 1), m -> m.cons(3, 0, 9), m -> m.setRest(2, 3));
        due("of cells that moved", dump(after(moved, m -> m.append(4, 1, 9))),
                "0:1:7 1:3:4 2:1:7 3:0:0 2:1:8 3:2:2 0:1:7 0:1:8 1:1:7");
    }

    private static void appendRoom() {
        sentence("Promise 11", "A root holds a new list of the firsts of the list that root a holds, ending in what root b holds");
        int[] lengths = {1, 2, 3, 10};
        for (int many : lengths) {
            Run list = all(m -> m.number(0, 7), m -> m.list(1, 0, many));
            room("append of " + many + " to nil", many, many, list, m -> m.append(2, 1, 9));
            room("append of " + many + " to a number", many, many + 1, list, m -> m.append(2, 1, 0));
            room("append of " + many + " to itself", many, many + 1, list, m -> m.append(2, 1, 1));
            room("append of " + many + " in its own place", many, many, list, m -> m.append(1, 1, 9));
        }
        Run full = all(m -> m.number(0, 7), m -> waste(m, 3), m -> m.cons(1, 0, 9), m -> m.cons(1, 0, 1), m -> waste(m, SIZE - 7));
        due("of what lies elsewhere then", dump(after(full, m -> m.append(2, 1, 1))), "0:1:7 1:1:7 0:1:7 2:1:7 3:2:0");
    }

    private static void appendLargest() {
        sentence("Promise 11", "so many new words");
        Run half = straight(60);
        due("of sixty to nil", after(half, m -> m.append(2, 1, 9)).about(0), SIZE);
        due("of sixty to nil, its length", after(half, m -> m.append(2, 1, 9)).length(2), 60);
        due("of sixty to nil, collections", after(half, m -> m.append(2, 1, 9)).about(2), 1);
        due("of sixty behind one wasted word", after(half, m -> waste(m, 1), m -> m.append(2, 1, 9)).about(0), SIZE);
        refusedForRoom("of sixty beside one word", all(half, kept(1)), m -> m.append(2, 1, 9));
        refusedForRoom("of sixty to a number", half, m -> m.append(2, 1, 0));
        refusedForRoom("of sixty-one to nil", all(half, m -> m.cons(1, 0, 1)), m -> m.append(2, 1, 9));
        refusedForRoom("of a hundred and nineteen", straight(119), m -> m.append(2, 1, 9));
    }

    private static void appendOfNil() {
        sentence("Promise 11", "just what b holds if a holds nil");
        due("nil", after(MIXED, m -> m.append(2, 9, 8)).kind(2), 0);
        due("a number", after(MIXED, m -> m.append(2, 9, 0)).value(2), 7L);
        due("a pair", after(MIXED, m -> m.append(9, 9, 2)).same(9, 2), true);
        due("what never ends", after(MIXED, m -> m.append(9, 9, 5)).same(9, 5), true);
        due("no new words", after(MIXED, m -> m.append(9, 9, 2)).about(0), 9);
        ListMemory full = after(kept(SIZE), m -> m.append(1, 9, 8));
        due("in a full half", full.same(1, 8), true);
        due("in a full half, collections", full.about(2), 0);
    }

    private static void appendBelowZero() {
        sentence("Promise 11", "IllegalStateException if the length of a is below 0.");
        Run scene = all(MIXED, m -> m.cons(6, 0, 5));
        Class<?> state = IllegalStateException.class;
        refused("of a number", state, scene, m -> m.append(9, 0, 4));
        refused("of the number 0", state, all(scene, m -> m.number(0, 0)), m -> m.append(9, 0, 4));
        refused("of what ends in a number", state, scene, m -> m.append(9, 2, 4));
        refused("of what ends in a number at once", state, scene, m -> m.append(9, 3, 4));
        refused("of a round", state, scene, m -> m.append(9, 5, 4));
        refused("of what comes to a round", state, scene, m -> m.append(9, 6, 4));
        refused("of a number to nil", state, scene, m -> m.append(4, 0, 9));
        refused("of a number in a full half", state, kept(SIZE), m -> m.append(9, 0, 8));
        refused("of what ends in a number in a full half", state, kept(SIZE), m -> m.append(9, 8, 0));
        refused("of a round in a full half", state, all(kept(SIZE), m -> m.setRest(8, 8)), m -> m.append(9, 8, 0));
        due("the length 0 is not below 0", outcomeOf(after(scene), m -> m.append(9, 8, 0)), "nothing");
        due("the length 1 is not below 0", outcomeOf(after(scene), m -> m.append(9, 4, 0)), "nothing");
    }
}
