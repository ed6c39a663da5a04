import java.util.LinkedHashMap;
import java.util.Map;

/**
 * What the boundary tests have in common. The sentence of the document that is tested stands at the
 * head of each test, and is told with each answer that is not the one due.
 */
abstract class Boundaries {
    protected static final long LEAST = -288230376151711744L;
    protected static final long GREATEST = 288230376151711743L;
    protected static final int[] NO_ROOTS = {-1, 10, 11, -10, Integer.MIN_VALUE, Integer.MAX_VALUE};
    protected static final int SIZE = 120;
    /** Numbers, and pairs in cells of all sorts. */
    protected static final Run MIXED = Boundaries::mix;

    private static String sentence = "";
    private static int sentences = 0;
    private static int checks = 0;
    private static int wrong = 0;

    protected interface Run {
        void on(ListMemory m);
    }

    protected interface Question {
        Object of(ListMemory m);
    }

    /** Makes the tests, and ends with exit code 1 if an answer was not the one due. */
    protected static void make(Runnable... tests) {
        for (Runnable test : tests) {
            try {
                test.run();
            } catch (RuntimeException e) {
                wrong++;
                System.out.println(sentence + ": the test itself came to " + e);
            }
        }
        System.out.println(sentences + " sentences, " + checks + " checks, " + wrong + " wrong");
        if (wrong != 0) {
            System.exit(1);
        }
    }

    protected static void sentence(String promise, String words) {
        sentence = promise + ": \"" + words + "\"";
        sentences++;
    }

    protected static void due(String what, Object got, Object want) {
        checks++;
        if (!got.equals(want)) {
            wrong++;
            System.out.println(sentence + ": " + what + ": " + got + ", due is " + want);
        }
    }

    protected static Run all(Run... runs) {
        return m -> {
            for (Run run : runs) {
                run.on(m);
            }
        };
    }

    protected static ListMemory after(Run... runs) {
        ListMemory m = new ListMemory();
        all(runs).on(m);
        return m;
    }

    protected static String outcome(ListMemory m, Question question) {
        try {
            return "" + question.of(m);
        } catch (RuntimeException e) {
            return e.getClass().getSimpleName();
        }
    }

    protected static String outcomeOf(ListMemory m, Run made) {
        return outcome(m, n -> {
            made.on(n);
            return "nothing";
        });
    }

    /** The words in use, each as code:kind:body; for memories of some words alone. */
    protected static String dump(ListMemory m) {
        StringBuilder text = new StringBuilder();
        for (int p = 0; p < m.about(0); p++) {
            text.append(p == 0 ? "" : " ");
            text.append(m.word(p, 0)).append(':').append(m.word(p, 1)).append(':').append(m.word(p, 2));
        }
        return text.toString();
    }

    /**
     * All that can be told after a run. Each question is put to an object of its own: none may be
     * used for more than 512 calls.
     */
    protected static Map<String, String> whole(Run run) {
        Map<String, String> told = new LinkedHashMap<>();
        for (int what = 0; what <= 2; what++) {
            int w = what;
            told.put("about(" + w + ")", outcome(after(run), m -> m.about(w)));
        }
        int used = after(run).about(0);
        for (int p = 0; p <= used; p++) {
            int q = p;
            told.put("word " + q, outcome(after(run), m -> m.word(q, 0) + ":" + m.word(q, 1) + ":" + m.word(q, 2)));
        }
        for (int r = 0; r < 10; r++) {
            int a = r;
            told.put("root " + a, outcome(after(run), m -> m.kind(a) + " length " + m.length(a) + " words " + m.words(a)));
            told.put("value " + a, outcome(after(run), m -> m.value(a)));
            told.put("place " + a, toldPlace(run, a));
            told.put("same and alike " + a, outcome(after(run), m -> sameAndAlike(m, a)));
        }
        return told;
    }

    protected static String sameAndAlike(ListMemory m, int a) {
        StringBuilder text = new StringBuilder();
        for (int b = 0; b < 10; b++) {
            text.append(m.same(a, b) ? 's' : '-').append(m.alike(a, b) ? 'a' : '-');
        }
        return text.toString();
    }

    /** A root's place shows in a word only: so it is set as the first of some pair. */
    protected static String toldPlace(Run run, int root) {
        ListMemory m = after(run);
        int holder = 0;
        while (holder < 10 && m.kind(holder) != 2) {
            holder++;
        }
        if (holder == 10) {
            return "no pair";
        }
        m.setFirst(holder, root);
        StringBuilder text = new StringBuilder();
        for (int p = 0; p < m.about(0); p++) {
            text.append(m.word(p, 2)).append(' ');
        }
        return text.toString();
    }

    protected static void dueWhole(String what, Run got, Run want) {
        Map<String, String> is = whole(got);
        Map<String, String> should = whole(want);
        for (String part : should.keySet()) {
            if (!should.get(part).equals(is.get(part))) {
                due(what + ", " + part, "" + is.get(part), should.get(part));
                return;
            }
        }
        due(what, is, should);
    }

    protected static void refused(String call, Class<?> want, Run scene, Run made) {
        due(call + " throws", outcomeOf(after(scene), made), want.getSimpleName());
        dueWhole(call + " changes nothing", all(scene, m -> outcomeOf(m, made)), scene);
    }

    protected static void refusedForRoom(String call, Run scene, Run made) {
        due(call + " throws", outcomeOf(after(scene), made), "UnsupportedOperationException");
        dueWhole(call + " but collects", all(scene, m -> outcomeOf(m, made)), all(scene, m -> m.collect()));
    }

    protected static void unchanged(String call, Run scene, Run made) {
        due(call + " throws", outcomeOf(after(scene), made), "nothing");
        dueWhole(call + " changes nothing", all(scene, made), scene);
    }

    /** So many words that nothing reaches; root 9 is nil then. */
    protected static void waste(ListMemory m, int many) {
        for (int left = many; left > 0; left -= Math.min(left, 10)) {
            m.list(9, 0, Math.min(left, 10));
        }
        m.drop(9);
    }

    /** So many words that stay so many when collected: root 8 has them, and root 0 a number. */
    protected static void keep(ListMemory m, int many) {
        m.number(0, 7);
        m.drop(8);
        if (many % 2 == 1) {
            m.list(8, 0, 1);
        }
        for (int i = 0; i < many / 2; i++) {
            m.cons(8, 8, 0);
        }
    }

    protected static Run kept(int many) {
        return m -> keep(m, many);
    }

    /** Root 1 has a list of so many sevens, a word for each. */
    protected static Run straight(int many) {
        return m -> {
            m.number(0, 7);
            for (int i = 0; i < many; i++) {
                m.cons(1, 0, 1);
            }
            m.collect();
        };
    }

    /** Root 1 has so many pairs of one word each, none of them a rest: each is the first of the next. */
    protected static Run chain(int many) {
        return m -> {
            for (int i = 0; i < many; i++) {
                m.list(1, 1, 1);
            }
        };
    }

    /** Numbers in 0 and 1, cells with NEXT in 2, moved in 3, with PAIR in 4, a round in 5, nil behind. */
    protected static void mix(ListMemory m) {
        m.number(0, 7);
        m.number(1, 8);
        m.list(2, 0, 2);
        m.rest(3, 2);
        m.setRest(3, 0);
        m.cons(4, 2, 9);
        m.list(5, 5, 1);
        m.setRest(5, 5);
    }

    /**
     * A call that needs so many words, behind a setup that has so many of its own, all of them kept:
     * with enough left, with one too few, and with enough or one too few once it is collected.
     */
    protected static void room(String call, int own, int need, Run setup, Run made) {
        int before = after(setup).about(2);
        int[] lefts = {0, 1, need - 1, need, need + 1};
        for (int left : lefts) {
            int spare = SIZE - own - left;
            if (left < 0 || spare < 0) {
                continue;
            }
            String told = call + " with " + left + " words left";
            ListMemory m = after(setup, n -> waste(n, spare), made);
            due(told + ", collections", m.about(2) - before, left >= need ? 0 : 1);
            due(told + ", words used", m.about(0), left >= need ? SIZE - left + need : own + need);

            String then = call + " with " + left + " words left when collected";
            Run scene = all(setup, kept(spare), n -> waste(n, left));
            due(then + ", words used before", after(scene).about(0), SIZE);
            if (left < need) {
                refusedForRoom(then, scene, made);
                refusedForRoom(then + ", none of them wasted", all(setup, kept(spare)), made);
            } else {
                due(then + ", collections", after(scene, made).about(2) - before, 1);
                due(then + ", words used", after(scene, made).about(0), SIZE - left + need);
            }
        }
    }

    /** 118 pairs: 117 of one word each, and behind them one with PAIR, which root 2 holds. */
    protected static Run longestEndingInANumber() {
        return m -> {
            m.number(0, 7);
            m.cons(1, 0, 0);
            m.copy(2, 1);
            for (int i = 0; i < 117; i++) {
                m.cons(1, 0, 1);
            }
            m.collect();
        };
    }
}
