import java.util.NoSuchElementException;

/** Each promise of the document by hand: what is ordinary, the edges, and what is wrong. */
public final class PromiseTest {
    // Behind 0 .. 7 steps: where (-1 -1 -1) (1 -1 -1) (1 1 -1) (1 1 1) (2 1 1) (-2 2 1) (-2 -2 2)
    // (-2 -2 -2); faces 012 112 012 222 100 111 112 112; seen 000 100 320 324 764 775 777 777.
    private static final String GORGE = "sides 3;reach 1 1;reach 0 2;reach 3 0;"
            + "judge 0 0 0;bigot 1 0 1;judge 2 1 2;";
    private static final int NONE = -1;
    private static final int LANDED = -2;

    private static int promise;
    private static int wrong;

    private interface Call {
        int answer();
    }

    private static void due(String what, int got, int want) {
        if (got != want) {
            wrong++;
            System.out.println("promise " + promise + ": " + what + " answered " + got
                    + ", due is " + want);
        }
    }

    private static void throwsNse(String what, Call call) {
        due(what + " throws", thrown(call), 1);
    }

    private static void throwsIae(String what, Call call) {
        due(what + " throws", thrown(call), 2);
    }

    private static int thrown(Call call) {
        try {
            call.answer();
            return 0;
        } catch (RuntimeException e) {
            return e.getClass() == NoSuchElementException.class ? 1
                    : e.getClass() == IllegalArgumentException.class ? 2 : 3;
        }
    }

    private static void feed(RoundCoracles x, String text) {
        StringBuilder s = new StringBuilder(text);
        while (s.length() % 20 != 0) {
            s.append('!');
        }
        for (int i = 0; i < s.length(); i += 20) {
            int[] five = new int[5];
            for (int k = 0; k < 20; k++) {
                five[k / 4] = five[k / 4] << 8 | s.charAt(i + k);
            }
            x.feed(five[0], five[1], five[2], five[3], five[4]);
        }
    }

    private static int tell(RoundCoracles x, String text) {
        feed(x, text);
        return x.gorge(text.length());
    }

    private static RoundCoracles by(String text) {
        RoundCoracles x = new RoundCoracles();
        due("'" + text + "'", tell(x, text), 0);
        return x;
    }

    private static RoundCoracles by(String text, int steps) {
        RoundCoracles x = by(text);
        due("steps", x.steps(steps), steps);
        return x;
    }

    private static void newObject() {
        RoundCoracles x = new RoundCoracles();
        int[] want = {4, 0, 0, 0, 0, 0, 0, 0, NONE, 0, 0, 0, 0, 0, 0};
        for (int what = 0; what < want.length; what++) {
            due("count(" + what + ")", x.count(what), want[what]);
        }
        due("fault", x.fault(), NONE);
        due("restore", x.restore() ? 1 : 0, 0);
        throwsNse("judge", () -> x.judge(0, 0));
        throwsNse("reach", () -> x.reach(0, 0));
    }

    private static void feeding() {
        RoundCoracles x = new RoundCoracles();
        for (int i = 1; i <= 35; i++) {
            due("feed", x.feed(0, 0, 0, 0, 0), 20 * i);
        }
        due("feed above 700", x.feed(0, 0, 0, 0, 0), NONE);
        due("bytes", x.count(11), 700);
        due("refused texts", x.count(12), 0);
        RoundCoracles y = new RoundCoracles();
        // 's' 'i' 'd' 'e' is 0x73696465: the highest byte comes first.
        y.feed(0x73696465, 0x7320363b, 0x72656163, 0x68203320, 0x373b2020);
        due("gorge", y.gorge(20), 0);
        due("sides", y.count(0), 6);
        due("flow", y.reach(0, 0), 3);
        due("spin", y.reach(0, 1), 7);
    }

    private static void gorge() {
        RoundCoracles x = by(GORGE);
        due("the tape is empty", x.count(11), 0);
        x.steps(2);
        x.see(0, 0, 0);
        x.image();
        feed(x, "reach 0 0;");
        throwsIae("more than the tape has", () -> x.gorge(21));
        throwsIae("below 0", () -> x.gorge(-1));
        due("bytes are there still", x.count(11), 20);
        due("fault", x.gorge(9), 1);
        due("place", x.fault(), 9);
        due("the tape is empty behind a fault", x.count(11), 0);
        due("reaches stay", x.count(1), 3);
        due("the step stays", x.count(3), 2);
        due("acts stay", x.count(9), 1);
        due("sightings stay", x.count(10), 1);
        due("status", x.count(12), 1);
        due("the image stays", x.restore() ? 1 : 0, 1);
        tell(x, "?");
        x.steps(0);
        x.see(0, 99, 0);
        due("gorge", tell(x, "sides 5;reach 1 2;"), 0);
        due("sides anew", x.count(0), 5);
        due("reaches anew", x.count(1), 1);
        due("judges anew", x.count(2), 0);
        due("the step anew", x.count(3), 0);
        due("acts are gone", x.count(9), 0);
        due("undo", x.undo(), NONE);
        due("sightings are gone", x.count(10), 0);
        due("the image is gone", x.restore() ? 1 : 0, 0);
        due("status 0 stays", x.count(12), 1);
        due("status 1 stays", x.count(13), 1);
        due("status 2 stays", x.count(14), 1);
        due("no bytes", x.gorge(0), 0);
        due("4 sides without", x.count(0), 4);
        due("no reaches", x.count(1), 0);
        faultsOfLines();
        faultsOfExpressions();
        expressions();
        values();
    }

    private static void faulty(String text, int code, int place) {
        RoundCoracles x = new RoundCoracles();
        due("'" + text + "'", tell(x, text), code);
        due("the place of '" + text + "'", x.fault(), place);
        due("refused of '" + text + "'", x.count(12), code == 0 ? 0 : 1);
    }

    private static void good(String text) {
        faulty(text, 0, NONE);
    }

    private static void faultsOfLines() {
        good("");
        good(" \n ");
        faulty("x", 1, 0);
        faulty(";", 1, 0);
        faulty("4", 1, 0);
        faulty("12345", 1, 0);
        faulty("sides", 1, 5);
        faulty("sides  ", 1, 7);
        faulty("sides 4", 1, 7);
        faulty("sides 4 4;", 1, 8);
        faulty("sides ;", 1, 6);
        faulty("sides x;", 1, 6);
        faulty("sides 1;", 2, 6);
        faulty("sides 9;", 2, 6);
        faulty("sides 00004;", 2, 6);
        good("sides 0004;");
        good("sides4;");
        good("\nsides\n2 ;");
        good("sides 8;");
        faulty("Sides 4;", 1, 0);
        faulty("side 4;", 1, 0);
        faulty("sidess 4;", 1, 0);
        faulty("sides\t4;", 1, 5);
        faulty("sides 4;\u00e9", 1, 8);
        faulty("sides 4;\u0000", 1, 8);
        good("reach 3 7;");
        faulty("reach 4 0;", 2, 6);
        faulty("reach 0 8;", 2, 8);
        faulty("reach 0;", 1, 7);
        faulty("reach (0) 0;", 1, 6);
        good("reach 0 0;".repeat(9));
        faulty("reach 0 0;".repeat(10), 2, 90);
        faulty("reach 0 0;".repeat(9) + "reach x", 2, 90);
        good("sides 8;judge 7 9 20;");
        good("judge 3 0 0;bigot 0 9 20;");
        faulty("judge 4 0 0;", 3, 6);
        faulty("bigot 9999 0 0;", 3, 6);
        faulty("judge 12345 0 0;", 2, 6);
        faulty("sides 2;judge 2 0 0;", 3, 14);
        faulty("judge 0 10 0;", 2, 8);
        faulty("judge 0 0 21;", 2, 10);
        faulty("judge 0 0;", 1, 9);
        good("judge 0 0 0;".repeat(8));
        faulty("judge 0 0 0;".repeat(8) + "bigot 0 0 0;", 2, 96);
        faulty("judge 0 0 0;".repeat(9), 2, 96);
        faulty("judge 0 0 0;sides 4;", 4, 12);
        faulty("bigot 0 0 0;sides 4;", 4, 12);
        faulty("sides 4;judge 0 0 0;sides 4;", 4, 20);
        faulty("sides 4;sides x", 5, 8);
        faulty("turns 1;turns 1;", 5, 8);
        faulty("goes 1;goes 1;", 5, 7);
        good("turns 1;goes 1;sides 2;reach 0 0;judge 1 0 0;");
    }

    private static void faultsOfExpressions() {
        faulty("turns ;", 1, 6);
        faulty("turns 1", 1, 7);
        faulty("turns 1 2;", 1, 8);
        faulty("turns 1 12345;", 1, 8);
        faulty("turns lean foo;", 1, 11);
        faulty("turns foo;", 3, 6);
        faulty("turns leans;", 3, 6);
        faulty("turns flow;", 3, 6);
        faulty("goes spin;", 3, 5);
        good("turns spin+lean+seen+faces+here+step;");
        good("goes flow+lean+seen+faces+here+step;");
        faulty("turns 1+not 1;", 3, 8);
        faulty("turns 1 < not 1;", 3, 10);
        faulty("turns 1+;", 1, 8);
        faulty("turns or 1;", 3, 6);
        faulty("turns 1 and or 1;", 3, 12);
        faulty("turns 1 reach;", 1, 8);
        faulty("turns 1<2<3;", 1, 9);
        faulty("turns 1=2=3;", 1, 9);
        good("turns (1<2)<3;");
        faulty("turns 12345;", 2, 6);
        good("turns 9999;");
        faulty("turns -1;", 1, 6);
        faulty("turns (1;", 1, 8);
        faulty("turns 1);", 1, 7);
        faulty("turns ();", 1, 7);
        good("turns (((((1)))));");
        good("turns (((((1)))))+(((((not lean)))));");
        faulty("turns ((((((1))))));", 2, 12);
        faulty("turns ((((((foo", 2, 12);
        faulty("turns ((((((not", 2, 12);
        faulty("turns (((((((", 2, 12);
        faulty("turns (((((( )", 1, 13);
        faulty("turns ((((((+", 1, 12);
        faulty("turns ((((((", 1, 12);
        good("turns not not not not not not 1;");
        faulty("turns not not not not not not not 1;", 2, 30);
        faulty("turns not not not not not not foo;", 3, 30);
        good("turns not (not not not not not not 1);");
        good("turns not not not not not not 1 and not not not not not not 1;");
        good("turns " + "1+".repeat(346) + "1;");
        good("turns " + "not ".repeat(6) + "1;goes " + "(".repeat(5) + "1" + ")".repeat(5) + ";");
    }

    /** What a rule gives, of 0 to 30: by so many a judge turns in the first step. */
    private static void gives(String expr, int want) {
        RoundCoracles x = by("turns " + expr + ";reach 0 5;judge 3 2 0;");
        due(expr, x.turned(0, 1), want);
    }

    private static void expressions() {
        gives("7-2-1", 4);
        gives("2+3*4", 14);
        gives("(2+3)*4", 20);
        gives("20/3/2", 3);
        gives("2*7/4*2", 6);
        gives("7/0+1", 1);
        gives("7/(1-1)", 0);
        gives("1-8", 0);
        gives("(1-8)/2+10", 7);
        gives("31", 30);
        gives("9999*9999", 30);
        // The third power of 9999 wraps to -1027349969.
        gives("9999*9999*9999", 0);
        gives("(0-9999*9999*9999)/9999/9999", 10);
        gives("3<4", 1);
        gives("4<4", 0);
        gives("0-1<0", 1);
        gives("4=4", 1);
        gives("4=5", 0);
        gives("1<1+1", 1);
        gives("not 0", 1);
        gives("not 5", 0);
        gives("not not 7", 1);
        gives("not 1<0", 1);
        gives("not 0+1", 0);
        gives("2 and 4", 1);
        gives("2 and 0", 0);
        gives("0 or 7", 1);
        gives("0 or 0", 0);
        gives("0-1 or 0", 1);
        gives("1 or 0 and 0", 1);
        gives("(1 or 0) and 0", 0);
        gives("not 1 or 1", 1);
        gives("5+(2<3)*2", 7);
        gives("1+".repeat(29) + "1", 30);
        gives("1+(1+(1+(1+(1+(1)))))", 6);
        gives("0 or 1 and 1<1+1*(0 or 1 and 1<1+1*(0 or 1 and 0<1+1*(2)))", 1);
        gives("lean", 2);
        gives("spin", 5);
        gives("faces", 3);
        gives("seen", 1);
        gives("here", 0);
        gives("step", 0);
    }

    private static void values() {
        RoundCoracles x = by("goes here;reach 0 0;reach 0 0;"
                + "judge 0 0 0;judge 0 0 0;judge 0 0 0;judge 0 0 1;");
        due("two others", x.then(0, 1, 0), LANDED);
        due("one other", x.then(1, 1, 0), 1);
        due("no others", x.then(2, 1, 0), 0);
        due("faces behind turning", by("turns 1;goes faces=1;reach 0 0;judge 0 0 0;").then(0, 1, 0),
                LANDED);
        due("step", by("turns step;reach 0 0;judge 0 0 5;").turned(0, 7), 11);
        due("flow", by("goes flow-1;reach 2 0;reach 0 0;judge 0 0 0;").then(0, 1, 0), 1);
        due("seen", by("turns 1;goes seen=3;reach 0 0;judge 0 0 0;").when(0, 1), 3);
    }

    private static void fault() {
        RoundCoracles x = new RoundCoracles();
        due("without", x.fault(), NONE);
        tell(x, "sides 4;x");
        due("of the latest", x.fault(), 8);
        throwsIae("gorge", () -> x.gorge(1));
        due("of the latest still", x.fault(), 8);
        tell(x, "sides 4;");
        due("without again", x.fault(), NONE);
    }

    private static void count() {
        RoundCoracles x = by(GORGE, 5);
        int[] want = {3, 3, 3, 5, 3, 1, 6, 2, 1, 1, 0, 0, 0, 0, 0};
        for (int what = 0; what < want.length; what++) {
            due("count(" + what + ")", x.count(what), want[what]);
        }
        throwsNse("count(-1)", () -> x.count(-1));
        throwsNse("count(15)", () -> x.count(15));
        due("no bench", by(GORGE, 2).count(8), NONE);
        due("a bench of two", by(GORGE, 3).count(8), 5);
        due("pools", by("reach 0 0;reach 1 0;reach 0 1;reach 3 0;").count(7), 5);
        // Judge 2 has seen both sides; 0 and 1 have, too, but only together.
        RoundCoracles y = by("sides 2;reach 0 1;judge 0 1 1;judge 1 1 1;judge 0 0 0;", 2);
        due("the fewest", y.count(8), 4);
        RoundCoracles z = by("sides 2;reach 0 0;judge 1 0 0;judge 0 0 0;judge 0 0 0;", 1);
        due("the least of as few", z.count(8), 3);
    }

    private static void reach() {
        RoundCoracles x = by(GORGE, 3);
        due("flow", x.reach(2, 0), 3);
        due("spin", x.reach(1, 1), 2);
        due("who", x.reach(1, 2), 7);
        due("nobody", x.reach(0, 2), 0);
        throwsNse("reach 3", () -> x.reach(3, 0));
        throwsNse("reach -1", () -> x.reach(-1, 0));
        throwsNse("what 3", () -> x.reach(0, 3));
        throwsNse("what -1", () -> x.reach(0, -1));
    }

    private static void judge() {
        RoundCoracles x = by(GORGE);
        int[] bigot = {NONE, 1, 0, 0, 1, 1};
        int[] third = {NONE, 2, 0, 1, 2, 0};
        for (int what = 0; what <= 5; what++) {
            due("bigot " + what, x.judge(1, what), bigot[what]);
            due("third " + what, x.judge(2, what), third[what]);
        }
        x.steps(5);
        due("landed", x.judge(0, 0), LANDED);
        due("faces", x.judge(0, 1), 1);
        due("seen", x.judge(2, 2), 5);
        throwsNse("judge 3", () -> x.judge(3, 0));
        throwsNse("judge -1", () -> x.judge(-1, 0));
        throwsNse("what 6", () -> x.judge(0, 6));
        throwsNse("what -1", () -> x.judge(0, -1));
    }

    private static void steps() {
        RoundCoracles x = by(GORGE);
        due("0", x.steps(0), NONE);
        due("21", x.steps(21), NONE);
        due("-1", x.steps(-1), NONE);
        due("many", x.steps(Integer.MAX_VALUE), NONE);
        due("status", x.count(13), 4);
        due("no acts", x.count(9), 0);
        due("20", x.steps(20), 20);
        for (int i = 2; i <= 49; i++) {
            due("20", x.steps(20), 20 * i);
        }
        due("above 999", x.steps(20), NONE);
        due("999", x.steps(19), 999);
        due("above", x.steps(1), NONE);
        due("landed without reaches", by("judge 0 0 0;judge 1 0 3;", 3).count(5), 1);
        due("nothing seen", by("judge 0 0 0;", 3).judge(0, 2), 0);
        due("kept to 3", by("goes 9;" + "reach 0 0;".repeat(9) + "judge 0 0 0;", 1).judge(0, 0), 3);
        due("kept to 0", by("goes 0-9;reach 3 0;judge 0 0 0;", 9).judge(0, 0), 0);
        due("a fair one leaves a pool", by("sides 2;reach 0 1;judge 0 0 0;", 2).judge(0, 0), LANDED);
        due("not by a rule", by("sides 2;goes 0;reach 0 1;judge 0 0 0;", 9).judge(0, 0), 0);
        due("lean above spin", by("reach 0 1;judge 2 9 0;", 5).judge(0, 1), 2);
        due("a bigot's half of 30", by("turns 99;reach 0 0;bigot 0 0 0;").turned(0, 1), 15);
        due("a bigot's half is cut", by("reach 0 7;bigot 0 2 0;").turned(0, 1), 2);
    }

    private static void call() {
        RoundCoracles x = by(GORGE);
        due("ashore", x.call(0), NONE);
        x.steps(1);
        due("called", x.call(0), 2);
        due("landed", x.call(0), LANDED);
        due("landed already", x.call(0), NONE);
        due("status", x.count(13), 2);
        due("acts", x.count(9), 3);
        due("seen stays", x.judge(0, 2), 1);
        throwsNse("judge 3", () -> x.call(3));
        throwsNse("judge -1", () -> x.call(-1));
    }

    private static void paddle() {
        RoundCoracles x = by(GORGE);
        due("ashore", x.paddle(0, 2), 0);
        due("faces", x.judge(0, 1), 2);
        due("nothing seen by it", x.judge(0, 2), 0);
        due("faces it", x.paddle(0, 2), NONE);
        throwsNse("side 3", () -> x.paddle(0, 3));
        throwsNse("side -1", () -> x.paddle(0, -1));
        throwsNse("judge 3", () -> x.paddle(3, 0));
        x.steps(20);
        due("landed", x.paddle(0, 0) + x.paddle(1, 0) + x.paddle(2, 0), -3);
        throwsNse("side 3, landed", () -> x.paddle(0, 3));
        due("status", x.count(13), 4);
    }

    private static void carry() {
        RoundCoracles x = by(GORGE);
        due("ashore", x.carry(0, 0), NONE);
        x.steps(5);
        due("from below", x.carry(0, 2), LANDED);
        due("from a reach", x.carry(0, 0), 2);
        due("is there", x.carry(0, 0), NONE);
        due("where", x.judge(0, 0), 0);
        due("seen stays", x.judge(0, 2), 7);
        due("faces stays", x.judge(0, 1), 1);
        due("status", x.count(13), 2);
        throwsNse("reach 3", () -> x.carry(0, 3));
        throwsNse("reach -1", () -> x.carry(0, -1));
        throwsNse("judge 3", () -> x.carry(3, 0));
        due("on again", x.steps(1), 6);
        due("drifts again", x.judge(0, 0), 1);
    }

    private static void dredge() {
        RoundCoracles x = by(GORGE);
        due("as it was", x.dredge(2, 1, 7), 30);
        due("as it is", x.dredge(2, 1, 7), 17);
        due("flow", x.reach(2, 0), 1);
        due("spin", x.reach(2, 1), 7);
        due("acts", x.count(9), 2);
        due("flow 4", x.dredge(0, 4, 0), NONE);
        due("flow -1", x.dredge(0, -1, 0), NONE);
        due("spin 8", x.dredge(0, 0, 8), NONE);
        due("spin -1", x.dredge(0, 0, -1), NONE);
        due("status", x.count(13), 4);
        throwsNse("reach 3", () -> x.dredge(3, 0, 0));
        throwsNse("reach -1, flow 4", () -> x.dredge(-1, 4, 0));
        due("status", x.count(13), 4);
    }

    private static void undo() {
        RoundCoracles x = by(GORGE);
        due("none", x.undo(), NONE);
        due("no status", x.count(13), 0);
        x.paddle(0, 1);
        x.steps(2);
        x.call(0);
        x.carry(1, 2);
        x.dredge(1, 3, 3);
        due("dredge", x.undo(), 4);
        due("as it was", 10 * x.reach(1, 0) + x.reach(1, 1), 2);
        due("carry", x.undo(), 3);
        due("where", x.judge(1, 0), 1);
        due("call", x.undo(), 2);
        due("where", x.judge(0, 0), 1);
        due("steps", x.undo(), 1);
        due("the step", x.count(3), 0);
        due("ashore", x.judge(0, 0), NONE);
        due("seen", x.judge(0, 2), 0);
        due("paddle", x.undo(), 0);
        due("faces", x.judge(0, 1), 0);
        for (int i = 0; i < 43; i++) {
            x.paddle(0, (i + 1) % 3);
        }
        due("40 are kept", x.count(9), 40);
        for (int i = 39; i >= 0; i--) {
            due("undo", x.undo(), i);
        }
        due("the latest ones", x.judge(0, 1), 0);
        due("none more", x.undo(), NONE);
        x.paddle(0, 1);
        x.paddle(0, 2);
        due("on again", x.undo(), 1);
        due("faces", x.judge(0, 1), 1);
    }

    private static void then() {
        RoundCoracles x = by(GORGE);
        int[][] where = {{-1, -1, -1}, {1, -1, -1}, {1, 1, -1}, {1, 1, 1}, {2, 1, 1}, {-2, 2, 1},
            {-2, -2, 2}, {-2, -2, -2}};
        int[] faces = {12, 112, 12, 222, 100, 111, 112, 112};
        int[] seen = {0, 100, 320, 324, 764, 775, 777, 777};
        for (int t = 0; t <= 7; t++) {
            for (int j = 0; j < 3; j++) {
                due("where", x.then(j, t, 0), where[t][j]);
            }
            due("faces", 100 * x.then(0, t, 1) + 10 * x.then(1, t, 1) + x.then(2, t, 1), faces[t]);
            due("seen", 100 * x.then(0, t, 2) + 10 * x.then(1, t, 2) + x.then(2, t, 2), seen[t]);
        }
        due("nothing has changed", x.count(3), 0);
        due("60", x.then(0, 60, 0), LANDED);
        throwsNse("judge 3, steps 61", () -> x.then(3, 61, 0));
        throwsNse("what 3, steps 61", () -> x.then(0, 61, 3));
        throwsNse("what -1", () -> x.then(0, 0, -1));
        throwsIae("steps 61", () -> x.then(0, 61, 0));
        throwsIae("steps -1", () -> x.then(0, -1, 0));
        x.steps(2);
        due("from now on", x.then(0, 2, 0), 2);
    }

    private static void when() {
        RoundCoracles x = by(GORGE);
        for (int j = 0; j < 3; j++) {
            due("whole", x.when(j, 0), 4 + j);
            due("lands", x.when(j, 1), 5 + j);
        }
        x.steps(5);
        due("fair now", x.when(0, 0), 0);
        due("landed now", x.when(0, 1), 0);
        due("lands", x.when(2, 1), 2);
        throwsNse("what 2", () -> x.when(0, 2));
        throwsNse("what -1", () -> x.when(0, -1));
        throwsNse("judge 3", () -> x.when(3, 0));
        RoundCoracles y = by("reach 0 0;judge 0 0 0;");
        due("never whole", y.when(0, 0), NONE);
        due("never lands", y.when(0, 1), NONE);
        RoundCoracles z = by("goes step=60;reach 0 0;judge 0 0 0;");
        due("behind 61", z.when(0, 1), NONE);
        z.steps(1);
        due("behind 60", z.when(0, 1), 60);
        due("whole behind 60", by(seesAt(58)).when(0, 0), 60);
        due("whole behind 61", by(seesAt(59)).when(0, 0), NONE);
    }

    /** One sees the second side in the step behind this one. */
    private static String seesAt(int step) {
        return "sides 2;turns step=" + step + ";reach 0 0;judge 0 0 0;";
    }

    private static void later() {
        RoundCoracles x = by(GORGE);
        due("fair", x.later(5, 0), 3);
        due("landed", x.later(5, 1), 1);
        due("on reaches", x.later(5, 2), 6);
        due("crowd", x.later(3, 3), 1);
        due("of like ones the least", x.later(5, 3), 1);
        due("nobody", x.later(0, 3), NONE);
        due("nobody any more", x.later(60, 3), NONE);
        due("the most", by("goes lean;reach 0 0;reach 0 0;judge 0 0 0;judge 0 1 0;judge 0 1 0;")
                .later(1, 3), 1);
        throwsNse("what 4, steps 61", () -> x.later(61, 4));
        throwsNse("what -1", () -> x.later(0, -1));
        throwsIae("steps 61", () -> x.later(61, 0));
        throwsIae("steps -1", () -> x.later(-1, 3));
    }

    private static void beside() {
        RoundCoracles x = by(GORGE);
        due("0 and 1", x.beside(0, 1), 2);
        due("2 and 0", x.beside(2, 0), 3);
        due("both are one", x.beside(1, 1), NONE);
        x.steps(3);
        due("now", x.beside(0, 1), 0);
        x.steps(1);
        due("no more", x.beside(0, 1), NONE);
        x.steps(10);
        due("both landed", x.beside(0, 1), NONE);
        String rule = "reach 0 0;reach 0 0;judge 0 0 0;judge 0 1 0;goes lean and step=0 or "
                + "not lean and step=";
        due("behind 60", by(rule + "59;").beside(0, 1), 60);
        due("behind 61", by(rule + "60;").beside(0, 1), NONE);
        due("on reach 0", by("reach 0 0;judge 0 0 0;judge 0 0 3;").beside(0, 1), 4);
        throwsNse("judge 3", () -> x.beside(3, 0));
        throwsNse("other 3", () -> x.beside(0, 3));
        throwsNse("other -1", () -> x.beside(0, -1));
    }

    private static void first() {
        RoundCoracles x = by(GORGE);
        due("first", x.first(), 0);
        x.steps(5);
        due("who aren't landed now", x.first(), 1);
        x.steps(5);
        due("none", x.first(), NONE);
        due("of like ones the least", by("reach 0 0;reach 1 0;judge 0 0 0;goes lean;judge 0 1 3;"
                + "judge 0 1 3;").first(), 1);
        due("not the least, the first", by("reach 1 0;judge 0 0 2;judge 0 0 1;").first(), 1);
        due("without reaches", by("judge 0 0 5;").first(), 0);
        due("too late", by("goes step=60;reach 0 0;judge 0 0 0;").first(), NONE);
        due("late", by("goes step=59;reach 0 0;judge 0 0 0;").first(), 0);
    }

    private static void last() {
        RoundCoracles x = by(GORGE);
        due("0", x.last(0), 2);
        due("1", x.last(1), 0);
        due("2", x.last(2), 1);
        x.steps(4);
        due("none more", x.last(0), NONE);
        due("one more", x.last(1), 0);
        due("stays on one", by("reach 0 0;judge 3 0 0;").last(0), 3);
        due("in the 60th", by(seesAt(58)).last(0), 1);
        due("in the 61st", by(seesAt(59)).last(0), 0);
        due("never let go on a reach", by("judge 3 0 0;").last(0), NONE);
        throwsNse("judge 3", () -> x.last(3));
        throwsNse("judge -1", () -> x.last(-1));
    }

    private static void still() {
        RoundCoracles x = by(GORGE);
        for (int j = 0; j < 3; j++) {
            due("still", x.still(j, 60, 0), 3);
        }
        due("still of 2", x.still(0, 2, 0), 2);
        due("alone 0", x.still(0, 60, 1), 2);
        due("alone 1", x.still(1, 60, 1), 1);
        due("alone 2", x.still(2, 60, 1), 2);
        due("alone of 3", x.still(0, 3, 1), 1);
        x.dredge(1, 1, 2);
        due("no pool now", x.still(0, 60, 0), 0);
        throwsNse("judge 3, steps 0", () -> x.still(3, 0, 0));
        throwsNse("what 2, steps 0", () -> x.still(0, 0, 2));
        throwsNse("what -1", () -> x.still(0, 1, -1));
        throwsIae("steps 0", () -> x.still(0, 0, 0));
        throwsIae("steps 61", () -> x.still(0, 61, 1));
    }

    private static void turned() {
        RoundCoracles x = by(GORGE);
        int[] first = {0, 1, 3, 5, 7, 7};
        for (int t = 0; t < first.length; t++) {
            due("0 in " + t, x.turned(0, t), first[t]);
        }
        due("a bigot", x.turned(1, 60), 3);
        due("lean", x.turned(2, 60), 3);
        x.steps(2);
        due("from now on", x.turned(0, 60), 4);
        x.paddle(0, 1);
        due("paddling isn't turning", x.turned(0, 0), 0);
        due("round and round", by("turns 30;reach 0 0;judge 0 0 0;").turned(0, 60), 1800);
        throwsNse("judge 3, steps 61", () -> x.turned(3, 61));
        throwsIae("steps 61", () -> x.turned(0, 61));
        throwsIae("steps -1", () -> x.turned(0, -1));
    }

    private static void stay() {
        RoundCoracles x = by(GORGE);
        for (int j = 0; j < 3; j++) {
            due("stay", x.stay(j), 3);
        }
        x.steps(2);
        due("of the next ones", x.stay(0), 1);
        x.steps(3);
        due("landed", x.stay(0), 0);
        due("all", by("reach 0 0;judge 0 0 0;").stay(0), 60);
        due("ashore first", by("reach 0 0;judge 0 0 20;").stay(0), 40);
        due("on two reaches", by("goes step=2;reach 0 0;reach 0 0;reach 0 0;judge 0 0 0;").stay(0),
                58);
        throwsNse("judge 3", () -> x.stay(3));
        throwsNse("judge -1", () -> x.stay(-1));
    }

    private static void toSet() {
        RoundCoracles x = by("sides 2;turns faces=1;reach 0 0;judge 0 0 0;");
        due("which", x.toSet(0, 0), 1);
        due("behind", x.toSet(0, 1), 2);
        due("not without", x.when(0, 0), NONE);
        RoundCoracles y = by(GORGE);
        due("of like ones the least", y.toSet(0, 0), 0);
        due("behind", y.toSet(0, 1), 4);
        y.steps(5);
        due("fair now", y.toSet(0, 0), 0);
        due("behind 0", y.toSet(0, 1), 0);
        // It has seen 0 and 2, and faces 1: to face it is best.
        due("what one faces", y.toSet(2, 0), 1);
        due("behind 1", y.toSet(2, 1), 1);
        RoundCoracles z = by("judge 0 0 0;", 1);
        due("landed", z.toSet(0, 0), NONE);
        due("landed", z.toSet(0, 1), NONE);
        due("nothing helps", by("reach 0 0;judge 0 0 0;").toSet(0, 0), NONE);
        throwsNse("what 2", () -> x.toSet(0, 2));
        throwsNse("what -1", () -> x.toSet(0, -1));
        throwsNse("judge 1", () -> x.toSet(1, 0));
    }

    private static void toSpin() {
        RoundCoracles x = by("sides 3;reach 0 0;judge 0 0 0;judge 0 1 0;");
        due("which", x.toSpin(0, 3, 0), 2);
        due("how many", x.toSpin(0, 3, 1), 2);
        due("too few steps", x.toSpin(0, 2, 0), 0);
        due("nobody", x.toSpin(0, 2, 1), 0);
        due("the reach has its spin", x.reach(0, 1), 0);
        x.dredge(0, 0, 5);
        due("also less than it has", x.toSpin(0, 60, 0), 2);
        throwsNse("reach 1, steps 0", () -> x.toSpin(1, 0, 0));
        throwsNse("what 2, steps 0", () -> x.toSpin(0, 0, 2));
        throwsNse("what -1", () -> x.toSpin(0, 1, -1));
        throwsIae("steps 0", () -> x.toSpin(0, 0, 0));
        throwsIae("steps 61", () -> x.toSpin(0, 61, 0));
    }

    private static void toCall() {
        RoundCoracles x = by("sides 2;reach 0 0;reach 0 1;judge 0 0 0;judge 1 0 0;");
        due("nobody is on a reach", x.toCall(0), NONE);
        x.steps(1);
        due("oneself", x.toCall(0), 0);
        due("oneself", x.toCall(1), 1);
        x.call(0);
        due("not sooner", x.toCall(0), NONE);
        RoundCoracles y = by("sides 2;turns here=0;reach 0 0;reach 0 0;judge 0 0 0;judge 1 0 0;", 1);
        due("of like ones the least", y.toCall(0), 0);
        due("another one", y.toCall(1), 0);
        due("fair", by(GORGE, 4).toCall(0), NONE);
        throwsNse("judge 2", () -> x.toCall(2));
        throwsNse("judge -1", () -> x.toCall(-1));
    }

    private static void panel() {
        RoundCoracles x = by(GORGE);
        due("none yet", x.panel(0), 0);
        due("none yet", x.panel(1), 0);
        x.steps(3);
        due("how many", x.panel(0), 3);
        due("how much", x.panel(1), 1);
        // All have seen side 0 alone: it goes to the one with the least lean.
        RoundCoracles y = by("reach 0 0;judge 0 5 0;judge 0 2 0;judge 0 3 0;", 1);
        due("one", y.panel(0), 1);
        due("the least lean", y.panel(1), 2);
        due("to whom", y.seat(0), 1);
        // Both have seen side 0, only the first one 1: more sides go ahead of less lean.
        RoundCoracles z = by("sides 2;reach 0 1;judge 0 0 0;judge 0 9 0;", 2);
        due("both", z.panel(0), 2);
        due("with lean", z.panel(1), 9);
        due("0", z.seat(0), 1);
        due("1", z.seat(1), 0);
        throwsNse("what 2", () -> x.panel(2));
        throwsNse("what -1", () -> x.panel(-1));
    }

    private static void seat() {
        RoundCoracles x = by(GORGE, 3);
        for (int s = 0; s < 3; s++) {
            due("seat", x.seat(s), s);
        }
        RoundCoracles y = by(GORGE, 20);
        for (int s = 0; s < 3; s++) {
            due("the first row", y.seat(s), s);
        }
        // One judge for three sides: the first row has nobody behind all others.
        RoundCoracles z = by("sides 3;reach 0 1;judge 0 0 0;", 20);
        due("given", z.seat(0), 0);
        due("nobody", z.seat(1), NONE);
        due("nobody", z.seat(2), NONE);
        throwsNse("side 3", () -> x.seat(3));
        throwsNse("side -1", () -> x.seat(-1));
    }

    private static void unlike() {
        RoundCoracles x = by(GORGE, 4);
        due("0 1", x.unlike(0, 1), 1);
        due("2 0", x.unlike(2, 0), 2);
        due("itself", x.unlike(1, 1), 0);
        due("either way", by(GORGE, 3).unlike(0, 2), 3);
        throwsNse("judge 3", () -> x.unlike(3, 0));
        throwsNse("other 3", () -> x.unlike(0, 3));
        throwsNse("other -1", () -> x.unlike(0, -1));
    }

    private static void sides() {
        RoundCoracles x = by(GORGE);
        int[] some = {0, 1, 3, 7, 7, 7, 7};
        int[] each = {0, 0, 0, 0, 4, 5, 7};
        for (int t = 0; t < some.length; t++) {
            due("some", x.sides(t, 0), some[t]);
            due("each", x.sides(t, 1), each[t]);
        }
        RoundCoracles y = by("sides 5;");
        due("some without judges", y.sides(60, 0), 0);
        due("all without judges", y.sides(60, 1), 31);
        throwsNse("what 2, steps 61", () -> x.sides(61, 2));
        throwsNse("what -1", () -> x.sides(0, -1));
        throwsIae("steps 61", () -> x.sides(61, 0));
        throwsIae("steps -1", () -> x.sides(-1, 0));
    }

    private static void facing() {
        RoundCoracles x = by(GORGE);
        due("ashore", x.facing(0, 0), 0);
        due("all", x.facing(2, 3), 7);
        due("two", x.facing(0, 4), 6);
        due("not who is landed", x.facing(1, 5), 6);
        throwsNse("side 3, steps 61", () -> x.facing(3, 61));
        throwsNse("side -1", () -> x.facing(-1, 0));
        throwsIae("steps 61", () -> x.facing(0, 61));
        throwsIae("steps -1", () -> x.facing(0, -1));
    }

    private static void agree() {
        RoundCoracles x = by(GORGE);
        due("0 1", x.agree(0, 1, 60), 1);
        due("1 2", x.agree(1, 2, 60), 3);
        due("1 2 in 4", x.agree(1, 2, 4), 2);
        due("one and the same", x.agree(0, 0, 60), 4);
        throwsNse("judge 3, steps 0", () -> x.agree(3, 0, 0));
        throwsNse("other 3, steps 0", () -> x.agree(0, 3, 0));
        throwsIae("steps 0", () -> x.agree(0, 1, 0));
        throwsIae("steps 61", () -> x.agree(0, 1, 61));
    }

    private static void see() {
        RoundCoracles x = by(GORGE);
        due("steps -1", x.see(0, -1, 0), NONE);
        due("steps 21", x.see(0, 21, 0), NONE);
        due("side 3", x.see(0, 0, 3), NONE);
        due("side -1", x.see(0, 0, -1), NONE);
        throwsNse("judge 3, steps 21", () -> x.see(3, 21, 0));
        for (int i = 1; i <= 8; i++) {
            due("see", x.see(2, i % 2 * 20, 2), i);
        }
        due("the ninth", x.see(0, 0, 0), NONE);
        due("status", x.count(14), 5);
        due("sightings", x.count(10), 8);
        throwsNse("judge -1", () -> x.see(-1, 0, 0));
    }

    private static void leans() {
        RoundCoracles x = by(GORGE);
        due("all without sightings", x.leans(0), 27);
        due("the first", x.leans(1), 1);
        due("so without", x.leans(2), 1);
        // Behind 4 steps judge 2 of lean 1 faces 0; of lean 0: 2, 0 (+1), 2 (+2).
        x.see(2, 4, 2);
        due("one alone", x.leans(0), 9);
        due("lean 0, or 2 and more", x.leans(1), 20);
        due("not so without", x.leans(2), 0);
        x.see(2, 3, 0);
        due("lean 0", x.leans(0), 1);
        due("lean 0", x.leans(1), 20);
        x.see(0, 0, 1);
        due("none", x.leans(0), 0);
        due("none", x.leans(1), NONE);
        RoundCoracles y = by("reach 0 1;judge 0 0 0;");
        y.see(0, 1, 1);
        due("so", y.leans(2), 1);
        due("no other lean", y.leans(0), 0);
        y.steps(1);
        due("from now on", y.leans(2), 0);
        due("leans of 1 and more", y.leans(0), 9);
        throwsNse("what 3", () -> x.leans(3));
        throwsNse("what -1", () -> x.leans(-1));
    }

    private static void watch() {
        String rule = "goes lean;reach 0 0;reach 0 0;reach 0 0;judge 0 0 0;judge 0 1 ";
        RoundCoracles x = by(rule + "9;");
        due("who", x.watch(0), 0);
        due("landed and on 0", x.watch(1), 2);
        RoundCoracles y = by(rule + "5;");
        due("who", y.watch(0), 1);
        due("0, 1, 2 and landed", y.watch(1), 4);
        y.see(0, 0, 1);
        due("none", y.watch(0), NONE);
        due("none", y.watch(1), 0);
        due("of like ones the least", by("reach 0 0;judge 0 0 0;judge 0 0 0;").watch(0), 0);
        due("one place", by("reach 0 0;judge 0 0 0;judge 0 0 0;").watch(1), 1);
        due("without judges", by("reach 0 0;").watch(0), NONE);
        // By the leans as they are the one stays on 0; by all others it lands: one place.
        due("by these alone", by("goes lean;reach 0 0;judge 0 0 0;").watch(1), 1);
        throwsNse("what 2", () -> x.watch(2));
        throwsNse("what -1", () -> x.watch(-1));
    }

    private static void forget() {
        RoundCoracles x = by(GORGE);
        x.see(0, 0, 1);
        x.see(0, 99, 1);
        x.forget();
        due("none", x.count(10), 0);
        due("leans", x.leans(0), 27);
        due("status stays", x.count(14), 1);
        due("see", x.see(0, 0, 0), 1);
    }

    private static void floods() {
        RoundCoracles x = by("sides 2;reach 0 1;reach 1 0;judge 0 0 0;");
        due("too soon", x.floods(0, 1, 3), 0);
        due("no flood at first", x.floods(0, 2, 3), 70);
        due("of 1000", x.floods(0, 3, 3), 700);
        due("of 100000", x.floods(0, 5, 1), 90000);
        due("never", x.floods(0, 2, 0), 100);
        due("always", x.floods(0, 2, 10), 0);
        due("in a rule", by("sides 2;goes flow=3;reach 0 1;judge 0 0 0;").floods(0, 2, 3), 70);
        due("only in it", by("sides 2;reach 0 1;" + "reach 0 1;".repeat(3) + "judge 0 0 0;")
                .floods(0, 2, 10), 100);
        throwsNse("judge 1, steps 0", () -> x.floods(1, 0, 11));
        throwsIae("steps 0", () -> x.floods(0, 0, 5));
        throwsIae("steps 6", () -> x.floods(0, 6, 5));
        throwsIae("tenths -1", () -> x.floods(0, 1, -1));
        throwsIae("tenths 11", () -> x.floods(0, 1, 11));
    }

    private static void game() {
        RoundCoracles x = by("sides 3;reach 0 0;judge 0 0 0;judge 0 0 0;");
        due("one paddles, either way", x.game(0, 1, 0), 2);
        due("the other one first", x.game(0, 1, 1), 1);
        RoundCoracles y = by("sides 3;reach 1 0;reach 0 0;judge 0 0 0;judge 0 0 1;", 1);
        y.call(0);
        due("who is landed has 0", y.game(0, 1, 0), 1);
        due("the other one paddles", y.game(0, 1, 1), 1);
        due("the other way round", y.game(1, 0, 1), 10);
        RoundCoracles z = by("judge 0 0 0;judge 1 0 0;", 1);
        due("both landed", z.game(0, 1, 0), 1);
        due("both landed", z.game(0, 1, 1), 0);
        due("unlike already", by("sides 3;reach 0 0;judge 0 0 0;judge 1 0 0;").game(0, 1, 1), 0);
        throwsNse("what 2, both are one", () -> x.game(0, 0, 2));
        throwsNse("what -1", () -> x.game(0, 1, -1));
        throwsNse("judge 2", () -> x.game(2, 2, 0));
        throwsNse("other 2", () -> x.game(0, 2, 0));
        throwsIae("both are one", () -> x.game(1, 1, 0));
    }

    private static void years() {
        RoundCoracles x = by(GORGE);
        due("no steps", x.years(7, 0, 0) + x.years(7, 0, 1) + x.years(7, 0, 2), 0);
        RoundCoracles y = by("reach 0 0;judge 0 0 0;", 1);
        due("a spin", by("reach 0 1;judge 0 0 0;").years(1, 1, 2), spinBy(1));
        due("a call", y.years(callSeed(), 1, 0), 1);
        due("nobody changes", y.judge(0, 0), 0);
        due("landed already", by("judge 0 0 0;", 1).years(callSeed(), 1, 0), 0);
        due("let go without reaches", by("judge 0 0 0;").years(callSeed(), 1, 0), 1);
        due("who is fair already", by(GORGE, 20).years(1, 60, 1), 3);
        due("without judges", by("reach 0 0;").years(1, 60, 2), 0);
        throwsNse("what 3, n 61", () -> x.years(1, 61, 3));
        throwsNse("what -1", () -> x.years(1, 0, -1));
        throwsIae("n 61", () -> x.years(1, 61, 0));
        throwsIae("n -1", () -> x.years(1, -1, 0));
    }

    private static int stir(int seed) {
        return seed * 1103515245 + 12345;
    }

    private static int bits(int seed) {
        return seed >>> 16 & 0x7fff;
    }

    /** Seed 1 draws 2 of 6, a reach of one, and a spin. */
    private static int spinBy(int seed) {
        int one = stir(seed);
        due("a draw of 6", bits(one) % 6, 2);
        return bits(stir(stir(one))) % 8;
    }

    /** A seed whose first draw of 6 is 0. */
    private static int callSeed() {
        int seed = 0;
        while (seed < 100 && bits(stir(seed)) % 6 != 0) {
            seed++;
        }
        return seed;
    }

    private static void image() {
        RoundCoracles x = by(GORGE, 1);
        x.image();
        x.steps(4);
        x.image();
        x.steps(4);
        due("restore", x.restore() ? 1 : 0, 1);
        due("in place of another one", x.count(3), 5);
    }

    private static void restore() {
        RoundCoracles x = by(GORGE);
        due("there is none", x.restore() ? 1 : 0, 0);
        x.steps(3);
        x.see(0, 0, 2);
        x.steps(0);
        tell(x, "x");
        x.image();
        x.steps(4);
        x.dredge(0, 3, 3);
        x.carry(0, 1);
        x.undo();
        x.undo();
        x.undo();
        x.undo();
        x.paddle(1, 0);
        x.forget();
        x.see(0, 99, 0);
        x.steps(0);
        tell(x, "y");
        for (int again = 0; again < 2; again++) {
            due("restore", x.restore() ? 1 : 0, 1);
            due("the step", x.count(3), 3);
            due("on reaches", x.count(6), 7);
            due("faces", x.judge(1, 1), 2);
            due("seen", x.judge(2, 2), 4);
            due("flow", x.reach(0, 0), 1);
            due("acts", x.count(9), 1);
            due("sightings", x.count(10), 1);
            due("leans", x.leans(2), 1);
            due("refused texts", x.count(12), 1);
            due("refused acts", x.count(13), 1);
            due("refused sightings", x.count(14), 0);
            due("undo", x.undo(), 0);
            due("the step ahead", x.count(3), 0);
            x.call(0);
        }
        restoreActs();
        feed(x, "abc");
        x.restore();
        due("the tape stays", x.count(11), 20);
        due("the fault stays", x.fault(), 0);
    }

    /** The acts of an image are its own, though others come in their place. */
    private static void restoreActs() {
        RoundCoracles x = by(GORGE);
        for (int i = 1; i <= 42; i++) {
            x.paddle(0, i % 3);
        }
        x.image();
        for (int i = 1; i <= 25; i++) {
            x.paddle(1, (i + 1) % 3);
        }
        for (int again = 0; again < 2; again++) {
            due("restore", x.restore() ? 1 : 0, 1);
            due("faces", x.judge(1, 1), 1);
            for (int i = 39; i >= 0; i--) {
                due("undo", x.undo(), i);
                due("as it was", x.judge(0, 1), (i + 2) % 3);
            }
            x.dredge(0, 3, 3);
            x.steps(20);
        }
    }

    private static final Runnable[] PROMISES = {PromiseTest::newObject, PromiseTest::feeding,
        PromiseTest::gorge, PromiseTest::fault, PromiseTest::count, PromiseTest::reach,
        PromiseTest::judge, PromiseTest::steps, PromiseTest::call, PromiseTest::paddle,
        PromiseTest::carry, PromiseTest::dredge, PromiseTest::undo, PromiseTest::then,
        PromiseTest::when, PromiseTest::later, PromiseTest::beside, PromiseTest::first,
        PromiseTest::last, PromiseTest::still, PromiseTest::turned, PromiseTest::stay,
        PromiseTest::toSet, PromiseTest::toSpin, PromiseTest::toCall, PromiseTest::panel,
        PromiseTest::seat, PromiseTest::unlike, PromiseTest::sides, PromiseTest::facing,
        PromiseTest::agree, PromiseTest::see, PromiseTest::leans, PromiseTest::watch,
        PromiseTest::forget, PromiseTest::floods, PromiseTest::game, PromiseTest::years,
        PromiseTest::image, PromiseTest::restore};

    public static void main(String[] args) {
        for (int i = 0; i < PROMISES.length; i++) {
            promise = i + 1;
            PROMISES[i].run();
        }
        System.out.println(wrong == 0 ? "promises 1 to " + promise + " hold"
                : wrong + " answers are not as due");
        System.exit(wrong == 0 ? 0 : 1);
    }
}
