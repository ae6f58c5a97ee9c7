import java.util.ArrayList;
import java.util.List;
import java.util.NoSuchElementException;

/** What the tests of the document's edges share: sentences with their tests, and what is due. */
final class Edges {
    static final int NONE = -1;
    static final int LANDED = -2;
    static final int TERMS = 0;

    /** The document's words that have a test of their own, and the chapters they stand in. */
    final List<String> sentences = new ArrayList<>();
    final List<Integer> chapters = new ArrayList<>();
    private int chapter = TERMS;
    private String sentence = "";
    private int wrong;
    private int checks;

    interface Call {
        int answer();
    }

    /** What follows is of the terms, or of the promise of this number. */
    void chapter(int number) {
        chapter = number;
    }

    /** A test of some words of the chapter, told as they stand there. */
    void edge(String words, Runnable test) {
        sentences.add(words);
        chapters.add(chapter);
        sentence = words;
        int before = checks;
        test.run();
        if (checks == before) {
            complain("nothing is tested");
        }
    }

    int wrong() {
        return wrong;
    }

    int checks() {
        return checks;
    }

    void complain(String what) {
        wrong++;
        System.out.println(chapter + " \"" + sentence + "\": " + what);
    }

    void due(String what, int got, int want) {
        checks++;
        if (got != want) {
            complain(what + " answered " + got + ", due is " + want);
        }
    }

    void due(String what, boolean got, boolean want) {
        due(what, got ? 1 : 0, want ? 1 : 0);
    }

    /** It throws NoSuchElementException, and nothing changes. */
    void nse(RoundCoracles x, String what, Call call) {
        refusedBy(x, what, call, NoSuchElementException.class);
    }

    /** It throws IllegalArgumentException, and nothing changes. */
    void iae(RoundCoracles x, String what, Call call) {
        refusedBy(x, what, call, IllegalArgumentException.class);
    }

    private void refusedBy(RoundCoracles x, String what, Call call, Class<?> want) {
        checks++;
        String before = shot(x);
        Class<?> got = null;
        try {
            call.answer();
        } catch (RuntimeException e) {
            got = e.getClass();
        }
        if (got != want) {
            complain(what + " threw " + got + ", due is " + want);
        }
        same(what, shot(x), before);
    }

    /** It answers NONE, STATUS 0, 1 or 2 is one more, and nothing else changes. */
    void refused(RoundCoracles x, int status, String what, Call call) {
        int was = x.count(12 + status);
        String before = shot(x);
        due(what, call.answer(), NONE);
        due(what + ": STATUS " + status, x.count(12 + status), was + 1);
        String want = before.replace(statusWord(status, was), statusWord(status, was + 1));
        same(what, shot(x), want);
    }

    /** It answers this, and nothing changes. */
    void asks(RoundCoracles x, String what, Call call, int want) {
        String before = shot(x);
        due(what, call.answer(), want);
        same(what, shot(x), before);
    }

    void same(String what, String got, String want) {
        checks++;
        if (!got.equals(want)) {
            complain(what + " changes\n  " + want + "\n  to\n  " + got);
        }
    }

    private static String statusWord(int status, int many) {
        return " status" + status + "=" + many + ";";
    }

    /** All that an object tells of itself without looking ahead. */
    static String shot(RoundCoracles x) {
        StringBuilder s = new StringBuilder();
        for (int what = 0; what <= 11; what++) {
            s.append(what).append(':').append(x.count(what)).append(' ');
        }
        for (int status = 0; status < 3; status++) {
            s.append(statusWord(status, x.count(12 + status)));
        }
        for (int r = 0; r < x.count(1); r++) {
            s.append(" r").append(x.reach(r, 0)).append(x.reach(r, 1));
        }
        for (int j = 0; j < x.count(2); j++) {
            s.append(" j").append(x.judge(j, 0)).append('f').append(x.judge(j, 1));
            s.append('s').append(x.judge(j, 2)).append('l').append(x.judge(j, 3));
        }
        return s.append(" fault ").append(x.fault()).toString();
    }

    /** Fed byte by byte, up to a multiple of twenty by signs that stand nowhere. */
    static void feed(RoundCoracles x, String text) {
        StringBuilder s = new StringBuilder(text);
        while (s.length() % 20 != 0) {
            s.append('!');
        }
        for (int i = 0; i < s.length(); i += 20) {
            int[] five = new int[5];
            for (int k = 0; k < 20; k++) {
                five[k / 4] = five[k / 4] << 8 | s.charAt(i + k);
            }
            x.feed(five[0], five[1], five[2], five[3], five[4]);
        }
    }

    static int tell(RoundCoracles x, String text) {
        feed(x, text);
        return x.gorge(text.length());
    }

    RoundCoracles by(String text) {
        RoundCoracles x = new RoundCoracles();
        due("'" + text + "'", tell(x, text), 0);
        return x;
    }

    /** Behind so many steps, of which each call takes at most twenty. */
    RoundCoracles by(String text, int steps) {
        RoundCoracles x = by(text);
        for (int left = steps; left > 0; left -= Math.min(left, 20)) {
            x.steps(Math.min(left, 20));
        }
        due("the step", x.count(3), steps);
        return x;
    }

    void good(String text) {
        faulty(text, 0, NONE);
    }

    void faulty(String text, int fault, int place) {
        RoundCoracles x = new RoundCoracles();
        due("'" + text + "'", tell(x, text), fault);
        due("the place in '" + text + "'", x.fault(), place);
        due("refused of '" + text + "'", x.count(12), fault == 0 ? 0 : 1);
    }

    /** By so many sides one of lean 2 turns who faces 3 of 4 on a reach of spin 5, in step 0. */
    void gives(String expr, int want) {
        due(expr, by("turns " + expr + ";reach 0 5;judge 3 2 0;").turned(0, 1), want);
    }
}
