/** The bounds of what a collection lists and lays. */
public final class CollectionBoundaryTests extends Boundaries {
    public static void main(String[] args) {
        make(
                CollectionBoundaryTests::listedByRoots,
                CollectionBoundaryTests::listedByFirstsAndRests,
                CollectionBoundaryTests::laidFromWordZero,
                CollectionBoundaryTests::laidHeadsFirst,
                CollectionBoundaryTests::restOfNoListedPair,
                CollectionBoundaryTests::laidWhatIsLeft,
                CollectionBoundaryTests::laidWithEnd,
                CollectionBoundaryTests::laidWithNext,
                CollectionBoundaryTests::laidWithPair,
                CollectionBoundaryTests::contentsAsBefore,
                CollectionBoundaryTests::otherHalf);
    }

    private static void listedByRoots() {
        sentence("Terms", "first, for roots 0 to 9 in order, the root's pair, if it is one and isn't listed");
        Run numbered = m -> {
            for (int r = 9; r >= 0; r--) {
                m.number(r, r);
                m.list(r, r, 1);
            }
        };
        due("all ten", dump(after(numbered, m -> m.collect())),
                "1:1:0 1:1:1 1:1:2 1:1:3 1:1:4 1:1:5 1:1:6 1:1:7 1:1:8 1:1:9");
        due("one pair in two roots", dump(after(numbered, m -> m.copy(9, 0), m -> m.collect())),
                "1:1:0 1:1:1 1:1:2 1:1:3 1:1:4 1:1:5 1:1:6 1:1:7 1:1:8");
        for (int r = 0; r <= 9; r++) {
            int root = r;
            Run alone = all(m -> waste(m, 3), m -> m.list(root, root, 1), m -> m.setFirst(root, root), m -> m.collect());
            due("root " + r + " alone", dump(after(alone)), "1:2:0");
            due("root " + r + " alone, its place", dump(after(alone, m -> m.setFirst(root, root))), "1:2:0");
        }
        due("nil and numbers alone", after(m -> m.number(1, 0), m -> waste(m, 4), m -> m.collect()).about(0), 0);
    }

    private static void listedByFirstsAndRests() {
        sentence("Terms", "then, pair by pair as they are in the list, its first and then its rest, each if it is a pair that isn't listed");
        // Root 0 is ((1) (2)): the rest is laid behind root 0's cell, then the firsts as they were listed.
        Run two = all(m -> m.number(1, 1), m -> m.number(2, 2), m -> m.list(3, 2, 1), m -> m.list(2, 1, 1), m -> m.list(0, 2, 2),
                m -> m.drop(2), m -> m.drop(3));
        due("firsts of a list", dump(after(two, m -> m.collect())), "0:2:2 1:2:3 1:1:1 1:1:2");
        // Root 0 is (((1)) (2)): what lies two deep is listed behind what lies one deep.
        Run deep = all(m -> m.number(1, 1), m -> m.number(2, 2), m -> m.list(3, 2, 1), m -> m.list(2, 1, 1), m -> m.list(2, 2, 1),
                m -> m.list(0, 2, 2), m -> m.drop(2), m -> m.drop(3));
        due("level by level", dump(after(deep, m -> m.collect())), "0:2:2 1:2:4 1:2:3 1:1:1 1:1:2");
        // Root 0 is ((1) . 1), root 1 is (5): the list (1) is listed last.
        Run roots = all(m -> m.number(1, 1), m -> m.list(2, 1, 1), m -> m.cons(0, 2, 1), m -> m.number(1, 5), m -> m.list(1, 1, 1),
                m -> m.drop(2));
        due("what roots hold ahead of what pairs have", dump(after(roots, m -> m.collect())), "2:2:3 3:1:1 1:1:5 1:1:1");
        Run both = all(m -> m.list(1, 0, 1), m -> m.cons(1, 1, 1), m -> m.cons(1, 1, 1), m -> m.cons(1, 1, 1));
        due("each pair once", dump(after(both, m -> m.collect())), "0:2:1 0:2:2 0:2:3 1:0:0");
        Run ways = m -> {
            for (int i = 0; i < 30; i++) {
                m.copy(2, 1);
                m.list(1, 1, 2);
            }
            m.drop(2);
        };
        due("each pair once, though there are many ways to it", after(ways, m -> m.collect()).about(0), 60);
        due("as many as there can be", after(chain(SIZE), m -> m.collect()).about(0), SIZE);
        due("as many as there can be, the last one's first", after(chain(SIZE), m -> m.collect()).word(119, 1), 0L);
        due("as many as there can be, the one before", after(chain(SIZE), m -> m.collect()).word(118, 2), 119L);
        Run round = all(m -> m.list(1, 0, 1), m -> m.setFirst(1, 1));
        due("its own first", dump(after(round, m -> m.collect())), "1:2:0");
    }

    private static void laidFromWordZero() {
        sentence("Terms", "Then they are LAID in the other half, from word 0 on");
        for (int wasted = 0; wasted <= SIZE - 2; wasted += SIZE - 2) {
            int many = wasted;
            ListMemory m = after(n -> waste(n, many), n -> n.number(0, 7), n -> n.list(1, 0, 2), n -> n.collect());
            due("behind " + many + " words", dump(m), "0:1:7 1:0:0");
            m.collect();
            due("behind " + many + " words, again", dump(m), "0:1:7 1:0:0");
            m.drop(1);
            due("nothing to lay", m.collect(), 0);
            due("nothing to lay in the half that was used", m.collect(), 0);
        }
    }

    private static void laidHeadsFirst() {
        sentence("Terms", "first, in the order of the list, all that are the rest of no listed pair, each with its spine");
        // Root 0 has what root 1's list ends in: it is listed first, but laid as the rest that it is.
        Run tail = all(m -> m.number(2, 1), m -> m.number(3, 2), m -> m.list(1, 2, 2), m -> m.rest(0, 1), m -> m.collect());
        due("the head ahead of its rest", dump(after(tail)), "0:1:1 1:1:2");
        due("the root in the rest", after(tail).words(0), 1);
        Run itself = all(m -> m.number(3, 3), m -> m.list(1, 3, 1), m -> m.number(3, 4), m -> m.list(0, 3, 1), m -> m.setRest(0, 0),
                m -> m.collect());
        due("the rest of itself is no head", dump(after(itself)), "1:1:3 2:1:4 3:2:1");
        Run asFirst = all(m -> m.number(3, 3), m -> m.list(0, 3, 1), m -> m.list(1, 0, 1), m -> m.collect());
        due("a first of a listed pair is a head", dump(after(asFirst)), "1:1:3 1:2:0");
        Run two = all(m -> m.number(3, 3), m -> m.list(4, 3, 1), m -> m.number(3, 5), m -> m.cons(6, 3, 4), m -> m.number(3, 6),
                m -> m.cons(5, 3, 4), m -> m.collect());
        due("of two heads the one listed first has the spine", dump(after(two)), "0:1:6 1:1:3 2:1:5 3:2:1");
    }

    private static void restOfNoListedPair() {
        sentence("Terms", "all that are the rest of no listed pair");
        Run listed = all(m -> m.number(2, 2), m -> m.number(3, 3), m -> m.list(1, 2, 2), m -> m.rest(0, 1), m -> m.list(4, 2, 1));
        due("its head is listed", dump(after(listed, m -> m.collect())), "0:1:2 1:1:3 1:1:2");
        due("its head is not listed", dump(after(listed, m -> m.drop(1), m -> m.collect())), "1:1:3 1:1:2");
        due("its head was listed in the collection before", dump(after(listed, m -> m.collect(), m -> m.rest(0, 1), m -> m.drop(1),
                m -> m.collect(), m -> m.collect())), "1:1:3 1:1:2");
        // Root 0 has the word behind a cell that moved away: by its old code alone it would be a rest.
        Run left = all(m -> m.number(2, 2), m -> m.number(3, 3), m -> m.list(1, 2, 2), m -> m.rest(0, 1), m -> m.setRest(1, 9),
                m -> m.collect());
        due("its head has moved away", dump(after(left)), "1:1:3 1:1:2");
    }

    private static void laidWhatIsLeft() {
        sentence("Terms", "then, in that order, all that aren't laid yet, likewise");
        // Rounds of two in roots 4 (3, 4) and 5 (1, 2): neither has a head.
        Run rounds = all(m -> m.number(1, 1), m -> m.number(2, 2), m -> m.list(5, 1, 2), m -> m.rest(6, 5), m -> m.setRest(6, 5),
                m -> m.drop(6), m -> m.number(1, 3), m -> m.number(2, 4), m -> m.list(4, 1, 2), m -> m.rest(6, 4),
                m -> m.setRest(6, 4), m -> m.drop(6));
        due("two rounds", dump(after(rounds, m -> m.collect())),
                "0:1:3 2:1:4 3:2:0 0:1:1 2:1:2 3:2:3");
        due("from the pair listed first", dump(after(rounds, m -> m.rest(0, 4), m -> m.collect())),
                "0:1:4 2:1:3 3:2:0 0:1:1 2:1:2 3:2:3");
        due("behind all heads", dump(after(rounds, m -> m.list(9, 1, 1), m -> m.collect())),
                "1:1:3 0:1:3 2:1:4 3:2:1 0:1:1 2:1:2 3:2:4");
    }

    private static void laidWithEnd() {
        sentence("Terms", "its cell comes to the next word; if its rest is nil, with the code END");
        Run seven = m -> m.number(0, 7);
        due("from END", dump(after(seven, m -> m.list(1, 0, 1), m -> m.collect())), "1:1:7");
        due("from PAIR", dump(after(seven, m -> m.cons(1, 0, 9), m -> m.collect())), "1:1:7");
        due("from a moved cell", dump(after(seven, m -> m.list(1, 0, 2), m -> m.setRest(1, 9), m -> m.collect())), "1:1:7");
        due("not with the number 0 as its rest", dump(after(seven, m -> m.number(1, 0), m -> m.cons(2, 0, 1), m -> m.collect())),
                "2:1:7 3:1:0");
    }

    private static void laidWithNext() {
        sentence("Terms", "if its rest is a pair that isn't laid yet, with NEXT, and that one is laid behind it, with its spine");
        Run seven = m -> m.number(0, 7);
        due("from NEXT", dump(after(seven, m -> m.list(1, 0, 2), m -> m.collect())), "0:1:7 1:0:0");
        due("from PAIR", dump(after(seven, m -> m.cons(1, 0, 9), m -> m.cons(1, 0, 1), m -> m.collect())), "0:1:7 1:1:7");
        due("from a moved cell", dump(after(seven, m -> m.list(1, 0, 1), m -> m.cons(2, 0, 9), m -> m.setRest(1, 2), m -> m.collect())),
                "0:1:7 1:1:7");
        ListMemory m = after(straight(60), n -> n.copy(2, 1), n -> n.append(1, 1, 9), n -> n.drop(2), n -> n.collect());
        due("a long spine", m.about(0), 60);
        due("a long spine, all of it", m.length(1), 60);
        ListMemory n = after(straight(119), k -> k.list(2, 0, 1));
        due("the longest spine, a cell beside it", n.about(0), 120);
        due("the longest spine, its length", n.length(1), 119);
        due("the longest spine, collected", n.collect(), 120);
        due("the longest spine, its length then", n.length(1), 119);
        due("the longest spine, its words then", n.words(1), 119);
    }

    private static void laidWithPair() {
        sentence("Terms", "otherwise with PAIR, its rest in the second word");
        Run seven = m -> m.number(0, 7);
        due("a number", dump(after(seven, m -> m.cons(1, 0, 0), m -> m.collect())), "2:1:7 3:1:7");
        due("itself", dump(after(seven, m -> m.list(1, 0, 1), m -> m.setRest(1, 1), m -> m.collect())), "2:1:7 3:2:0");
        due("laid already, by another head", dump(after(seven, m -> m.list(3, 0, 1), m -> m.cons(1, 0, 3), m -> m.cons(2, 0, 3),
                m -> m.collect())), "0:1:7 1:1:7 2:1:7 3:2:1");
        due("laid already, in its own spine", dump(after(seven, m -> m.list(1, 0, 3), m -> m.rest(2, 1), m -> m.rest(3, 2),
                m -> m.setRest(3, 2), m -> m.collect())), "0:1:7 0:0:0 2:0:0 3:2:1");
        due("a full half of them", after(kept(SIZE), m -> m.collect()).about(0), SIZE);
    }

    private static void contentsAsBefore() {
        sentence("Terms", "All contents are the same values as before.");
        ListMemory m = after(MIXED, n -> n.number(6, LEAST), n -> n.number(7, GREATEST), n -> n.list(8, 6, 2), n -> n.collect());
        due("the least number", m.value(6), LEAST);
        due("the greatest number", m.value(7), GREATEST);
        due("lengths", m.length(2) + " " + m.length(3) + " " + m.length(4) + " " + m.length(5) + " " + m.length(8), "-1 -1 1 -2 2");
        m.first(9, 4);
        due("a first that is a pair", m.same(9, 2), true);
        m.rest(9, 2);
        due("a rest that is a pair", m.same(9, 3), true);
        m.first(9, 8);
        due("the least number in a word", m.value(9), LEAST);
        m.rest(9, 8);
        m.first(9, 9);
        due("the greatest number in a word", m.value(9), GREATEST);
    }

    private static void otherHalf() {
        sentence("Terms", "The other half is used then, and no content is moved.");
        Run moves = all(m -> m.number(0, 7), m -> m.list(1, 0, 1), m -> m.setRest(1, 0), m -> m.list(2, 0, 1), m -> m.setRest(2, 2));
        due("moved before", after(moves).about(1), 2);
        due("moved then", after(moves, m -> m.collect()).about(1), 0);
        due("the words then", dump(after(moves, m -> m.collect())), "2:1:7 3:1:7 2:1:7 3:2:2");
        due("back in the first half", dump(after(moves, m -> m.collect(), m -> m.collect())), "2:1:7 3:1:7 2:1:7 3:2:2");
        due("the words of the half before are not used", outcome(after(moves, m -> m.collect()), m -> m.word(4, 0)),
                "IndexOutOfBoundsException");
        // Word 1 was moved in the half before: that is nothing to the pair that lies in word 1 now.
        Run before = all(m -> m.list(2, 0, 1), m -> m.list(1, 0, 1), m -> m.setRest(1, 1), m -> m.drop(1), m -> m.collect());
        due("a pair where one had moved", dump(after(before, m -> m.list(3, 0, 1), m -> m.setRest(3, 3))), "1:0:0 1:3:2 2:0:0 3:2:1");
        // Both halves have had moved and other words in all places: none of them may show again.
        Run dirt = all(CollectionBoundaryTests::moveAll, m -> m.collect(), CollectionBoundaryTests::moveAll, m -> m.collect());
        Run[] runs = {MIXED, chain(60), kept(SIZE), m -> m.list(1, 0, 10), all(MIXED, m -> m.collect()), CollectionBoundaryTests::moveAll};
        for (int i = 0; i < runs.length; i++) {
            dueWhole("in halves that were used before, run " + i, all(dirt, runs[i]),
                    all(m -> m.collect(), m -> m.collect(), runs[i]));
        }
    }

    /** The half is full of pairs that moved, and none of them is reached. */
    private static void moveAll(ListMemory m) {
        for (int i = 0; i < 40; i++) {
            m.list(1, 1, 1);
            m.setRest(1, 1);
        }
        m.drop(1);
    }
}
