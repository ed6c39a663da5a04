import java.util.ArrayList;
import java.util.IdentityHashMap;
import java.util.LinkedHashSet;
import java.util.List;
import java.util.Map;
import java.util.NoSuchElementException;
import java.util.Set;

/**
 * Long runs of calls against a second, plainer program. There a pair is an object that knows its
 * cell, so that nothing of how the first one finds pairs is used again. It is by the same hand and
 * reads the document in the same way: it shows slips, not misreadings.
 */
public final class ModelTests {
    private static final int RUNS = 3000;
    private static final int CALLS = 512;
    private static final int MOST_TOLD = 10;

    /** Outcomes that are rare: runs that never come to them would test too little. */
    private static final List<String> MUST_BE_MET = List.of(
            "cons throws.UnsupportedOperationException", "list throws.UnsupportedOperationException",
            "setRest throws.UnsupportedOperationException", "append throws.UnsupportedOperationException",
            "append throws.IllegalStateException", "number throws.IllegalArgumentException",
            "list throws.IllegalArgumentException", "word throws.IndexOutOfBoundsException",
            "word throws.IllegalArgumentException");
    private static final Set<String> MET = new LinkedHashSet<>();

    /** What a root or a word has: nil (null), a Long or a Pair in what, and the place a pair tells. */
    private static final class Val {
        final Object what;
        final int place;

        Val(Object what, int place) {
            this.what = what;
            this.place = place;
        }

        Pair pair() {
            return what instanceof Pair ? (Pair) what : null;
        }
    }

    private static final class Pair {
        Val first;
        Val rest;
        int cell;
        int code;
    }

    private static final class Word {
        Pair owner;
        boolean second;
        int movedTo = -1;
        int code;

        Val content() {
            return second ? owner.rest : owner.first;
        }
    }

    private static final class Model {
        private static final Val NIL = new Val(null, 0);
        private final Val[] roots = new Val[10];
        private List<Word> words = new ArrayList<>();
        private int collections = 0;

        Model() {
            for (int r = 0; r < 10; r++) {
                roots[r] = NIL;
            }
        }

        private Word take(Pair owner, int code) {
            Word w = new Word();
            w.owner = owner;
            w.code = code;
            w.second = code == 3;
            words.add(w);
            return w;
        }

        private Pair lay(Val first, int code) {
            Pair pair = new Pair();
            pair.first = first;
            settle(pair, code);
            return pair;
        }

        private void settle(Pair pair, int code) {
            pair.cell = words.size();
            pair.code = code;
            take(pair, code);
            if (code == 2) {
                take(pair, 3);
            }
        }

        private void room(int many) {
            if (words.size() + many > 120) {
                collect();
            }
            if (words.size() + many > 120) {
                throw new UnsupportedOperationException();
            }
        }

        private void checkRoots(int... numbers) {
            for (int r : numbers) {
                if (r < 0 || r > 9) {
                    throw new NoSuchElementException();
                }
            }
        }

        private Pair pairOf(int root) {
            if (roots[root].pair() == null) {
                throw new IllegalStateException();
            }
            return roots[root].pair();
        }

        void number(int root, long v) {
            checkRoots(root);
            if (v >> 58 != 0 && v >> 58 != -1) {
                throw new IllegalArgumentException();
            }
            roots[root] = new Val(v, 0);
        }

        void cons(int root, int first, int rest) {
            checkRoots(root, first, rest);
            room(2);
            Pair pair = lay(roots[first], 2);
            pair.rest = roots[rest];
            roots[root] = new Val(pair, pair.cell);
        }

        private void layRun(int root, List<Val> firsts, Val end) {
            Pair head = null;
            Pair before = null;
            for (int i = 0; i < firsts.size(); i++) {
                boolean last = i == firsts.size() - 1;
                Pair pair = lay(firsts.get(i), !last ? 0 : end.what == null ? 1 : 2);
                if (before == null) {
                    head = pair;
                } else {
                    before.rest = new Val(pair, pair.cell);
                }
                before = pair;
            }
            before.rest = end;
            roots[root] = new Val(head, head.cell);
        }

        void list(int root, int from, int many) {
            checkRoots(root, from);
            if (many < 1 || many > 10 || from + many > 10) {
                throw new IllegalArgumentException();
            }
            room(many);
            List<Val> firsts = new ArrayList<>();
            for (int i = 0; i < many; i++) {
                firsts.add(roots[from + i]);
            }
            layRun(root, firsts, NIL);
        }

        void append(int root, int a, int b) {
            checkRoots(root, a, b);
            int many = length(a);
            if (many < 0) {
                throw new IllegalStateException();
            }
            if (many == 0) {
                roots[root] = roots[b];
                return;
            }
            room(many + (roots[b].what == null ? 0 : 1));
            List<Val> firsts = new ArrayList<>();
            for (Pair pair = roots[a].pair(); pair != null; pair = pair.rest.pair()) {
                firsts.add(pair.first);
            }
            layRun(root, firsts, roots[b]);
        }

        private static boolean isSame(Val a, Val b) {
            return a.what == b.what || a.what instanceof Long && a.what.equals(b.what);
        }

        void setRest(int root, int v) {
            checkRoots(root, v);
            Pair pair = pairOf(root);
            if (isSame(pair.rest, roots[v])) {
                return;
            }
            if (pair.code != 2) {
                room(2);
            }
            if (pair.code != 2) {
                words.get(pair.cell).movedTo = words.size();
                settle(pair, 2);
            }
            pair.rest = roots[v];
        }

        int length(int root) {
            checkRoots(root);
            Set<Integer> cells = new LinkedHashSet<>();
            Val v = roots[root];
            while (v.pair() != null) {
                if (!cells.add(v.pair().cell)) {
                    return -2;
                }
                v = v.pair().rest;
            }
            return v.what == null ? cells.size() : -1;
        }

        int words(int root) {
            checkRoots(root);
            Set<Integer> all = new LinkedHashSet<>();
            int passed = 0;
            int sum = 0;
            for (Val v = roots[root]; v.pair() != null && all.add(v.pair().cell); v = v.pair().rest) {
                sum += v.pair().code == 2 ? 2 : 1;
                passed += v.place == v.pair().cell ? 0 : 1;
            }
            return sum + passed;
        }

        /** Two values look alike if they are told in the same words, pairs by when they were met. */
        private static String told(Val value) {
            Map<Pair, Integer> met = new IdentityHashMap<>();
            List<Val> open = new ArrayList<>();
            open.add(value);
            StringBuilder text = new StringBuilder();
            while (!open.isEmpty()) {
                Val v = open.remove(open.size() - 1);
                if (v.pair() == null) {
                    text.append(v.what).append(' ');
                } else if (met.containsKey(v.pair())) {
                    text.append('#').append(met.get(v.pair())).append(' ');
                } else {
                    met.put(v.pair(), met.size());
                    text.append("( ");
                    open.add(v.pair().rest);
                    open.add(v.pair().first);
                }
            }
            return text.toString();
        }

        boolean alike(int a, int b) {
            checkRoots(a, b);
            return told(roots[a]).equals(told(roots[b]));
        }

        int collect() {
            collections++;
            List<Pair> reached = new ArrayList<>();
            for (Val v : roots) {
                reach(reached, v);
            }
            for (int i = 0; i < reached.size(); i++) {
                reach(reached, reached.get(i).first);
                reach(reached, reached.get(i).rest);
            }
            words = new ArrayList<>();
            List<Pair> laid = new ArrayList<>();
            for (Pair pair : reached) {
                boolean isRest = false;
                for (Pair other : reached) {
                    isRest |= other.rest.pair() == pair;
                }
                if (!isRest) {
                    laySpine(laid, pair);
                }
            }
            for (Pair pair : reached) {
                if (!laid.contains(pair)) {
                    laySpine(laid, pair);
                }
            }
            for (Pair pair : reached) {
                pair.first = afresh(pair.first);
                pair.rest = afresh(pair.rest);
            }
            for (int r = 0; r < 10; r++) {
                roots[r] = afresh(roots[r]);
            }
            return words.size();
        }

        private static void reach(List<Pair> reached, Val v) {
            if (v.pair() != null && !reached.contains(v.pair())) {
                reached.add(v.pair());
            }
        }

        private void laySpine(List<Pair> laid, Pair pair) {
            laid.add(pair);
            if (pair.rest.what == null) {
                settle(pair, 1);
            } else if (pair.rest.pair() != null && !laid.contains(pair.rest.pair())) {
                settle(pair, 0);
                laySpine(laid, pair.rest.pair());
            } else {
                settle(pair, 2);
            }
        }

        private static Val afresh(Val v) {
            return v.pair() == null ? v : new Val(v.pair(), v.pair().cell);
        }

        int about(int what) {
            int moved = 0;
            for (Word w : words) {
                moved += w.movedTo >= 0 ? 1 : 0;
            }
            return what == 0 ? words.size() : what == 1 ? moved : what == 2 ? collections : -1;
        }

        long word(int p, int what) {
            if (p < 0 || p >= words.size()) {
                throw new IndexOutOfBoundsException();
            }
            if (what < 0 || what > 2) {
                throw new IllegalArgumentException();
            }
            Word w = words.get(p);
            if (what == 0) {
                return w.code;
            }
            if (w.movedTo >= 0) {
                return what == 1 ? 3 : w.movedTo;
            }
            Val v = w.content();
            if (v.what == null) {
                return 0;
            }
            if (what == 1) {
                return v.pair() == null ? 1 : 2;
            }
            return v.pair() == null ? (Long) v.what : v.place;
        }

        int kind(int root) {
            checkRoots(root);
            return roots[root].what == null ? 0 : roots[root].pair() == null ? 1 : 2;
        }

        long value(int root) {
            checkRoots(root);
            if (!(roots[root].what instanceof Long)) {
                throw new IllegalStateException();
            }
            return (Long) roots[root].what;
        }
    }

    private static long seed = 1;

    /** A written-out row of numbers, the same in every run. */
    private static int pick(int below) {
        seed = seed * 6364136223846793005L + 1442695040888963407L;
        return (int) ((seed >>> 33) % below);
    }

    private static int pickRoot() {
        return pick(200) == 0 ? pick(2) * 11 - 1 : pick(10);
    }

    /** Of the calls that change something, how often each is made in a run of that sort. */
    private static final int[][] SORTS = {
        {8, 3, 4, 12, 8, 6, 14, 6, 16, 5, 1},
        {4, 1, 4, 20, 10, 10, 14, 8, 24, 2, 0},
        {2, 1, 8, 6, 14, 8, 24, 6, 30, 2, 2},
        {4, 2, 2, 8, 6, 8, 10, 4, 8, 24, 0},
    };

    private static int pickChange(int[] sort) {
        int sum = 0;
        for (int n : sort) {
            sum += n;
        }
        int at = pick(sum);
        for (int i = 0; i < sort.length; i++) {
            at -= sort[i];
            if (at < 0) {
                return i;
            }
        }
        return 0;
    }

    private static long pickNumber() {
        return pick(30) == 0 ? (pick(2) == 0 ? 1L << 58 : -(1L << 58)) - pick(2) : pick(3) - 1;
    }

    private static String call(int run, ListMemory m, Model n) {
        if (pick(100) < 45) {
            return ask(m, n);
        }
        int a = pickRoot();
        int b = pickRoot();
        int c = pickRoot();
        long v = pickNumber();
        int many = pick(60) == 0 ? pick(14) - 1 : 1 + pick(Math.max(1, Math.min(10, 10 - b)));
        switch (pickChange(SORTS[run % SORTS.length])) {
            case 0:
                return both("number(" + a + ", " + v + ")", () -> done(() -> m.number(a, v)), () -> done(() -> n.number(a, v)));
            case 1:
                return both("drop(" + a + ")", () -> done(() -> m.drop(a)), () -> done(() -> {
                    n.checkRoots(a);
                    n.roots[a] = Model.NIL;
                }));
            case 2:
                return both("copy(" + a + ", " + b + ")", () -> done(() -> m.copy(a, b)), () -> done(() -> {
                    n.checkRoots(a, b);
                    n.roots[a] = n.roots[b];
                }));
            case 3:
                return both("cons(" + a + ", " + b + ", " + c + ")", () -> done(() -> m.cons(a, b, c)), () -> done(() -> n.cons(a, b, c)));
            case 4:
                return both("list(" + a + ", " + b + ", " + many + ")", () -> done(() -> m.list(a, b, many)), () -> done(() -> n.list(a, b, many)));
            case 5:
                return both("first(" + a + ", " + b + ")", () -> done(() -> m.first(a, b)), () -> done(() -> {
                    n.checkRoots(a, b);
                    n.roots[a] = n.pairOf(b).first;
                }));
            case 6:
                return both("rest(" + a + ", " + b + ")", () -> done(() -> m.rest(a, b)), () -> done(() -> {
                    n.checkRoots(a, b);
                    n.roots[a] = n.pairOf(b).rest;
                }));
            case 7:
                return both("setFirst(" + a + ", " + b + ")", () -> done(() -> m.setFirst(a, b)), () -> done(() -> {
                    n.checkRoots(a, b);
                    n.pairOf(a).first = n.roots[b];
                }));
            case 8:
                return both("setRest(" + a + ", " + b + ")", () -> done(() -> m.setRest(a, b)), () -> done(() -> n.setRest(a, b)));
            case 9:
                return both("append(" + a + ", " + b + ", " + c + ")", () -> done(() -> m.append(a, b, c)), () -> done(() -> n.append(a, b, c)));
            default:
                return both("collect()", () -> m.collect(), () -> n.collect());
        }
    }

    private static String ask(ListMemory m, Model n) {
        int a = pickRoot();
        int b = pickRoot();
        int p = pick(Math.max(1, n.words.size() + 1)) - (pick(100) == 0 ? 1 : 0);
        int what = pick(50) == 0 ? pick(6) - 2 : pick(3);
        switch (pick(9)) {
            case 0:
                return both("kind(" + a + ")", () -> m.kind(a), () -> n.kind(a));
            case 1:
                return both("value(" + a + ")", () -> m.value(a), () -> n.value(a));
            case 2:
                return both("same(" + a + ", " + b + ")", () -> m.same(a, b) ? 1 : 0, () -> {
                    n.checkRoots(a, b);
                    return Model.isSame(n.roots[a], n.roots[b]) ? 1 : 0;
                });
            case 3:
                return both("length(" + a + ")", () -> m.length(a), () -> n.length(a));
            case 4:
                return both("words(" + a + ")", () -> m.words(a), () -> n.words(a));
            case 5:
                return both("alike(" + a + ", " + b + ")", () -> m.alike(a, b) ? 1 : 0, () -> n.alike(a, b) ? 1 : 0);
            case 6:
                return both("about(" + what + ")", () -> m.about(what), () -> n.about(what));
            default:
                return both("word(" + p + ", " + what + ")", () -> m.word(p, what), () -> n.word(p, what));
        }
    }

    private interface Asked {
        long answer();
    }

    private interface Change {
        void make();
    }

    private static long done(Change change) {
        change.make();
        return 0;
    }

    private static String outcome(Asked asked) {
        try {
            return "" + asked.answer();
        } catch (RuntimeException e) {
            return "throws." + e.getClass().getSimpleName();
        }
    }

    /** Null if both answer the same. */
    private static String both(String text, Asked program, Asked model) {
        String got = outcome(program);
        String want = outcome(model);
        String name = text.substring(0, text.indexOf('(')) + (want.startsWith("throws") ? " " + want : "");
        MET.add(name);
        return got.equals(want) ? null : text + " answered " + got + ", due is " + want;
    }

    public static void main(String[] args) {
        int wrong = 0;
        for (int run = 1; run <= RUNS && wrong < MOST_TOLD; run++) {
            seed = run;
            ListMemory m = new ListMemory();
            Model n = new Model();
            for (int i = 1; i <= CALLS; i++) {
                String fault = call(run, m, n);
                if (fault != null) {
                    wrong++;
                    System.out.println("run " + run + ", call " + i + ": " + fault);
                    break;
                }
            }
        }
        System.out.println(wrong == 0 ? RUNS + " runs are as due" : "at least " + wrong + " runs are not as due");
        boolean enough = MET.containsAll(MUST_BE_MET);
        if (!enough) {
            System.out.println("the runs came only to " + MET);
        }
        if (wrong != 0 || !enough) {
            System.exit(1);
        }
    }
}
