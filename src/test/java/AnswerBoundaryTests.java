/** The bounds of what tells of roots and words: promises 12 to 20. */
public final class AnswerBoundaryTests extends Boundaries {
    public static void main(String[] args) {
        make(
                AnswerBoundaryTests::kinds,
                AnswerBoundaryTests::values,
                AnswerBoundaryTests::same,
                AnswerBoundaryTests::lengthToNil,
                AnswerBoundaryTests::lengthNone,
                AnswerBoundaryTests::lengthNever,
                AnswerBoundaryTests::wordsOfPairs,
                AnswerBoundaryTests::wordsPassedThrough,
                AnswerBoundaryTests::wordsWithoutAPair,
                AnswerBoundaryTests::alikeTheSame,
                AnswerBoundaryTests::alikeOneByOne,
                AnswerBoundaryTests::alikeToTheLastPair,
                AnswerBoundaryTests::collected,
                AnswerBoundaryTests::abouts,
                AnswerBoundaryTests::wordParts,
                AnswerBoundaryTests::wordNotUsed,
                AnswerBoundaryTests::wordOtherWhat);
    }

    private static void kinds() {
        sentence("Promise 12", "What a root holds: 0 nil, 1 a number, 2 a pair.");
        int[] due = {1, 1, 2, 2, 2, 2, 0, 0, 0, 0};
        for (int r = 0; r <= 9; r++) {
            due("root " + r, after(MIXED).kind(r), due[r]);
        }
        due("the number 0", after(m -> m.number(0, 0)).kind(0), 1);
        due("the least number", after(m -> m.number(0, LEAST)).kind(0), 1);
        due("the greatest number", after(m -> m.number(0, GREATEST)).kind(0), 1);
        due("the pair at 0", after(m -> m.list(0, 0, 1)).kind(0), 2);
    }

    private static void values() {
        sentence("Promise 13", "The number that a root holds. IllegalStateException if it holds none.");
        due("the least", after(m -> m.number(9, LEAST)).value(9), LEAST);
        due("the greatest", after(m -> m.number(0, GREATEST)).value(0), GREATEST);
        for (int r = 2; r <= 9; r++) {
            int root = r;
            refused("value(" + r + ")", IllegalStateException.class, MIXED, m -> m.value(root));
        }
        refused("value of what was a number", IllegalStateException.class, all(MIXED, m -> m.drop(0)), m -> m.value(0));
    }

    private static void same() {
        sentence("Promise 14", "Whether two roots hold the same.");
        for (int a = 0; a <= 9; a++) {
            due("root " + a + " and itself", after(MIXED).same(a, a), true);
            for (int b = 0; b <= 9; b++) {
                due("roots " + a + " and " + b, after(MIXED).same(a, b), a == b || a >= 6 && b >= 6);
                due("roots " + a + " and " + b + ", collected", after(MIXED, m -> m.collect()).same(a, b), a == b || a >= 6 && b >= 6);
            }
        }
        due("the first and the last root", after(m -> m.list(0, 0, 1), m -> m.copy(9, 0)).same(0, 9), true);
        due("the first and the last word", after(chain(SIZE), m -> m.copy(2, 1), m -> {
            for (int i = 1; i < SIZE; i++) {
                m.first(2, 2);
            }
        }).same(1, 2), false);
    }

    private static void lengthToNil() {
        sentence("Promise 15", "from its pair, by rests, to nil (0 if it holds nil)");
        due("nil", new ListMemory().length(0), 0);
        for (int many = 1; many <= 60; many++) {
            due(many + " straight", after(straight(many)).length(1), many);
        }
        ListMemory m = after(straight(119));
        due("as long as a list can be", m.length(1), 119);
        due("and its words", m.about(0), 119);
        ListMemory n = after(straight(118), k -> k.cons(1, 0, 1));
        due("through all words of the half", n.length(1), 119);
        due("all words of the half", n.about(0), 120);
        due("firsts don't count", after(k -> k.list(0, 0, 1), k -> k.setFirst(0, 0)).length(0), 1);
    }

    private static void lengthNone() {
        sentence("Promise 15", "-1 if that ends in a number (or it holds one)");
        due("a number", after(m -> m.number(0, 5)).length(0), -1);
        due("the number 0", after(m -> m.number(0, 0)).length(0), -1);
        due("a pair and a number", after(m -> m.number(0, 0), m -> m.cons(1, 0, 0)).length(1), -1);
        ListMemory longest = after(longestEndingInANumber());
        due("at the end of the longest", longest.length(1), -1);
        due("at the end of the longest, words used", longest.about(0), 119);
        refusedForRoom("one pair more", longestEndingInANumber(), m -> m.cons(1, 0, 1));
    }

    private static void lengthNever() {
        sentence("Promise 15", "-2 if it never ends");
        due("a pair by itself", after(m -> m.list(0, 0, 1), m -> m.setRest(0, 0)).length(0), -2);
        due("a round of two", after(m -> m.list(1, 0, 2), m -> m.rest(2, 1), m -> m.setRest(2, 1)).length(2), -2);
        due("a way to a round", after(m -> m.list(1, 0, 9), m -> m.list(2, 0, 1), m -> m.setRest(2, 2), m -> m.cons(3, 0, 2)).length(3), -2);
        ListMemory round = after(longestEndingInANumber(), m -> m.setRest(2, 1));
        due("the longest round", round.length(1), -2);
        due("the longest round, from its last pair", round.length(2), -2);
        due("the longest round, its words", round.words(1), 119);
        due("the longest round, collected", round.collect(), 119);
        due("the longest round, its length then", round.length(1), -2);
        due("a long way to the shortest round", after(longestEndingInANumber(), m -> m.setRest(2, 2)).length(1), -2);
    }

    private static void wordsOfPairs() {
        sentence("Promise 16", "How many words the pairs of that have, each pair once: 2 with PAIR, 1 otherwise");
        Run two = all(m -> m.list(1, 0, 2), m -> m.rest(2, 1));
        due("NEXT and END", after(two).words(1), 2);
        due("END", after(two).words(2), 1);
        due("PAIR", after(m -> m.cons(1, 0, 0)).words(1), 2);
        due("PAIR ending in a number", after(m -> m.number(0, 1), m -> m.cons(1, 0, 0)).words(1), 2);
        due("PAIR by itself", after(m -> m.cons(1, 0, 0), m -> m.setRest(1, 1)).words(1), 2);
        due("PAIR and NEXT and END", after(two, m -> m.cons(3, 0, 1)).words(3), 4);
        due("no firsts", after(two, m -> m.cons(3, 1, 9)).words(3), 2);
        due("a round of two, each once", after(m -> m.cons(1, 0, 0), m -> m.cons(2, 0, 1), m -> m.setRest(1, 2)).words(1), 4);
        ListMemory twice = after(two, m -> m.words(1), m -> m.words(2));
        due("asked again", twice.words(1), 2);
        due("asked again, of its rest", twice.words(2), 1);
        due("a half full of them", after(longestEndingInANumber(), m -> m.list(3, 0, 1), m -> m.setRest(2, 3)).words(1), 120);
        due("the longest list", after(straight(119)).words(1), 119);
    }

    private static void wordsPassedThrough() {
        sentence("Promise 16", "1 for each word that is passed through on the way, from the root or from the one before, to a pair that is counted");
        Run list = all(m -> m.list(1, 0, 2), m -> m.rest(2, 1));
        due("from the root", after(list, m -> m.setRest(1, 9)).words(1), 3);
        due("from the one before, with NEXT", after(list, m -> m.setRest(2, 2)).words(1), 4);
        due("from the one before, with PAIR", after(list, m -> m.setRest(2, 2), m -> m.cons(3, 0, 2)).words(3), 5);
        due("from both", after(list, m -> m.setRest(2, 2), m -> m.setRest(1, 1), m -> m.setRest(1, 2)).words(1), 6);
        due("once in a round", after(list, m -> m.setRest(1, 1)).words(1), 3);
        due("none once collected", after(list, m -> m.setRest(2, 2), m -> m.collect()).words(1), 3);
        due("moved, but not on the way", after(list, m -> m.setRest(1, 9)).words(2), 1);
    }

    private static void wordsWithoutAPair() {
        sentence("Promise 16", "0 without a pair.");
        due("nil", new ListMemory().words(9), 0);
        due("the number 0", after(m -> m.list(1, 0, 1), m -> m.number(0, 0)).words(0), 0);
        due("a number", after(m -> m.list(1, 0, 1), m -> m.number(0, 5)).words(0), 0);
        due("dropped", after(m -> m.list(1, 0, 1), m -> m.drop(1)).words(1), 0);
    }

    private static void alikeTheSame() {
        sentence("Promise 17", "Whether two roots hold what looks alike: the same, or pairs");
        for (int r = 0; r <= 9; r++) {
            due("root " + r + " and itself", after(MIXED).alike(r, r), true);
        }
        due("nil and nil", new ListMemory().alike(0, 9), true);
        due("nil and the number 0", after(m -> m.number(0, 0)).alike(0, 9), false);
        due("the number 0 and nil", after(m -> m.number(0, 0)).alike(9, 0), false);
        due("a pair and nil", after(m -> m.list(1, 0, 1)).alike(1, 0), false);
        due("nil and a pair", after(m -> m.list(1, 0, 1)).alike(0, 1), false);
        due("a pair and a number", after(m -> m.number(0, 0), m -> m.list(1, 0, 1)).alike(1, 0), false);
        due("a number and a pair", after(m -> m.number(0, 0), m -> m.list(1, 0, 1)).alike(0, 1), false);
        due("the least and the greatest", after(m -> m.number(0, LEAST), m -> m.number(1, GREATEST)).alike(0, 1), false);
        due("the greatest and the one below", after(m -> m.number(0, GREATEST), m -> m.number(1, GREATEST - 1)).alike(0, 1), false);
        due("a full half and itself", after(kept(SIZE), m -> m.copy(1, 8)).alike(1, 8), true);
        due("as many pairs as there can be", after(chain(SIZE)).alike(1, 1), true);
        due("all of them but one", after(chain(SIZE), m -> m.first(2, 1)).alike(1, 2), false);
    }

    private static void alikeOneByOne() {
        sentence("Promise 17", "there is a way to set pairs of both against one another, one by one, so that these two are");
        Run pairs = all(m -> m.list(1, 0, 1), m -> m.list(2, 0, 1), m -> m.cons(3, 1, 1), m -> m.cons(4, 1, 2), m -> m.cons(5, 2, 1));
        due("one pair twice and two pairs", after(pairs).alike(3, 4), false);
        due("two pairs and one pair twice", after(pairs).alike(4, 3), false);
        due("two pairs and the same two crosswise", after(pairs).alike(4, 5), true);
        Run rounds = all(m -> m.list(1, 0, 1), m -> m.setRest(1, 1), m -> m.list(2, 8, 2), m -> m.rest(3, 2), m -> m.setRest(3, 2),
                m -> m.cons(4, 0, 1));
        due("a round of one and a round of two", after(rounds).alike(1, 2), false);
        due("a round of two and its other pair", after(rounds).alike(2, 3), true);
        due("a round and a way to it", after(rounds).alike(1, 4), false);
        due("a way to a round and the round", after(rounds).alike(4, 1), false);
        ListMemory twice = after(rounds, m -> m.alike(1, 2), m -> m.alike(2, 3), m -> m.alike(1, 4));
        due("asked again, a round of two and its other pair", twice.alike(2, 3), true);
        due("asked again, a round of one and a round of two", twice.alike(1, 2), false);
        // A round through the firsts of as many pairs as there can be: each is set against the next.
        Run firsts = all(chain(SIZE), m -> m.copy(2, 1), m -> {
            for (int i = 1; i < SIZE; i++) {
                m.first(2, 2);
            }
        }, m -> m.setFirst(2, 1), m -> m.first(3, 1));
        due("the longest round by firsts and its next", after(firsts).alike(1, 3), true);
        due("the longest round by firsts and its last", after(firsts).alike(1, 2), true);
        Run crossed = all(m -> m.list(1, 0, 1), m -> m.list(2, 0, 1), m -> m.setFirst(1, 2), m -> m.setFirst(2, 1));
        due("each the other's first", after(crossed).alike(1, 2), true);
    }

    private static void alikeToTheLastPair() {
        sentence("Promise 17", "of two that are the firsts, and the rests, are the same numbers, both nil, or set against one another");
        Run two = all(straight(60), m -> m.append(2, 1, 9));
        due("two lists of sixty", after(two).alike(1, 2), true);
        Run last = m -> {
            m.copy(3, 1);
            for (int i = 0; i < 59; i++) {
                m.rest(3, 3);
            }
        };
        due("another first in the last pair", after(two, last, m -> m.setFirst(3, 9)).alike(1, 2), false);
        due("another first in the last pair, the other way", after(two, last, m -> m.setFirst(3, 9)).alike(2, 1), false);
        due("a number in place of the last nil", after(longestEndingInANumber(), m -> m.copy(3, 1), m -> m.setFirst(2, 9)).alike(1, 3), true);
        Run ends = all(m -> m.number(0, 0), m -> m.cons(1, 9, 0), m -> m.cons(2, 9, 9));
        due("rests: the number 0 and nil", after(ends).alike(1, 2), false);
        due("firsts: the number 0 and nil", after(m -> m.number(0, 0), m -> m.list(1, 0, 1), m -> m.list(2, 9, 1)).alike(1, 2), false);
        due("rests: a pair and nil", after(m -> m.list(1, 0, 2), m -> m.list(2, 0, 1)).alike(1, 2), false);
        due("rests: nil and a pair", after(m -> m.list(1, 0, 2), m -> m.list(2, 0, 1)).alike(2, 1), false);
        due("cells of all sorts", after(m -> m.list(1, 0, 2), m -> m.cons(2, 0, 9), m -> m.cons(2, 0, 2)).alike(1, 2), true);
        due("a moved cell", after(m -> m.list(1, 0, 2), m -> m.list(2, 0, 1), m -> m.list(3, 0, 1), m -> m.setRest(2, 3)).alike(1, 2), true);
        due("numbers on the bounds", after(m -> m.number(0, LEAST), m -> m.list(1, 0, 1), m -> m.number(0, GREATEST), m -> m.list(2, 0, 1))
                .alike(1, 2), false);
    }

    private static void collected() {
        sentence("Promise 18", "Collects: how many words are used then. (Whether it is needed or not.)");
        due("nothing", new ListMemory().collect(), 0);
        due("nothing, collections", after(m -> m.collect()).about(2), 1);
        due("nothing but waste", after(m -> waste(m, SIZE)).collect(), 0);
        due("one word", after(m -> m.list(1, 0, 1)).collect(), 1);
        due("one word of all", after(m -> waste(m, SIZE - 1), m -> m.list(1, 0, 1)).collect(), 1);
        due("all words", after(kept(SIZE)).collect(), SIZE);
        due("all words but one", after(kept(SIZE - 1)).collect(), SIZE - 1);
        due("as about tells", after(MIXED, m -> m.collect()).about(0), after(MIXED).collect());
    }

    private static void abouts() {
        sentence("Promise 19", "0 how many words are used, 1 how many of them are moved, 2 how many collections there were. NONE for another what.");
        ListMemory m = after(MIXED, n -> n.collect(), n -> n.list(9, 9, 1), n -> n.setRest(9, 9));
        due("about(0)", m.about(0), 9);
        due("about(1)", m.about(1), 1);
        due("about(2)", m.about(2), 1);
        int[] others = {-1, 3, 4, -2, Integer.MIN_VALUE, Integer.MAX_VALUE};
        for (int what : others) {
            due("about(" + what + ")", m.about(what), ListMemory.NONE);
        }
        due("NONE", ListMemory.NONE, -1);
        Run moves = k -> {
            for (int i = 0; i < 40; i++) {
                k.list(1, 0, 1);
                k.setRest(1, 1);
            }
        };
        due("as many moved as can be", after(moves).about(1), 40);
        due("as many moved as can be, used", after(moves).about(0), SIZE);
        due("a collection for room counts", after(moves, k -> k.list(2, 0, 1)).about(2), 1);
        due("a collection that is not enough counts", after(kept(SIZE), k -> outcomeOf(k, l -> l.cons(1, 0, 0))).about(2), 1);
    }

    private static void wordParts() {
        sentence("Promise 20", "0 its code, 1 what its content is (0 nil, 1 a number, 2 a pair, 3 moved), 2 the number, or the place "
                + "(of a pair's cell as it was when it came there), 0 for nil");
        Run run = all(m -> m.number(0, LEAST), m -> m.number(1, GREATEST), m -> m.list(2, 0, 3), m -> m.setRest(2, 2), m -> m.cons(3, 0, 1));
        due("each code and kind", dump(after(run)), "0:3:3 0:1:" + GREATEST + " 1:0:0 2:1:" + LEAST + " 3:2:0 2:1:" + LEAST + " 3:1:" + GREATEST);
    }

    private static void wordNotUsed() {
        sentence("Promise 20", "IndexOutOfBoundsException if it is not used");
        int[] places = {-1, 9, 10, 119, 120, 121, -120, Integer.MIN_VALUE, Integer.MAX_VALUE};
        for (int p : places) {
            for (int what = -1; what <= 3; what++) {
                int w = what;
                refused("word(" + p + ", " + w + ")", IndexOutOfBoundsException.class, MIXED, m -> m.word(p, w));
            }
        }
        due("the last used", outcome(after(MIXED), m -> m.word(8, 0)), "3");
        refused("word(120, 0) of a full half", IndexOutOfBoundsException.class, kept(SIZE), m -> m.word(120, 0));
        refused("word(-1, 0) of a full half", IndexOutOfBoundsException.class, kept(SIZE), m -> m.word(-1, 0));
        due("word(119, 0) of a full half", outcome(after(kept(SIZE)), m -> m.word(119, 0)), "3");
        refused("used before a collection", IndexOutOfBoundsException.class, all(m -> waste(m, SIZE), m -> m.collect()), m -> m.word(0, 0));
    }

    private static void wordOtherWhat() {
        sentence("Promise 20", "IllegalArgumentException for another what");
        int[] others = {-1, 3, 4, -2, Integer.MIN_VALUE, Integer.MAX_VALUE};
        for (int p = 0; p <= 8; p++) {
            for (int what : others) {
                int q = p;
                refused("word(" + p + ", " + what + ")", IllegalArgumentException.class, MIXED, m -> m.word(q, what));
            }
        }
    }
}
