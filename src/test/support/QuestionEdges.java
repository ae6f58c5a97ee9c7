/** The edges of what can be asked: chapter 3 of the terms, promises 14 to 31. */
final class QuestionEdges {
    private static final int NONE = Edges.NONE;
    private static final int LANDED = Edges.LANDED;
    private static final int[] FAR = {Integer.MIN_VALUE, Integer.MAX_VALUE};
    /** One is on the pool till step 59, in which one turns and lands. */
    private static final String LATE = "goes step=59;turns step=59;reach 0 0;judge 2 0 20;";

    private final Edges e;

    QuestionEdges(Edges edges) {
        e = edges;
    }

    void all() {
        e.chapter(Edges.TERMS);
        ahead();
        meetings();
        counted();
        advice();
        bench();
        panelTerms();
        Runnable[] promises = {this::then, this::when, this::later, this::beside, this::first, this::last,
            this::still, this::turned, this::stay, this::toSet, this::toSpin, this::toCall, this::panel,
            this::seat, this::unlike, this::sides, this::facing, this::agree};
        for (int i = 0; i < promises.length; i++) {
            e.chapter(14 + i);
            promises[i].run();
        }
    }

    /** One sees the second of two sides in the step behind this one. */
    private static String turnsIn(int step) {
        return "sides 2;turns step=" + step + ";reach 0 0;judge 0 0 0;";
    }

    private static String landsIn(int step) {
        return "goes step=" + step + ";reach 0 0;judge 0 0 0;";
    }

    private void ahead() {
        e.edge("(If only STEPS go by, from now on:) THEN, behind so many STEPS (0 to 60): WHERE one is (the"
                + " REACH; none: ASHORE above, -2: LANDED), the SIDE one FACES, what one has SEEN (bits).",
                () -> {
            RoundCoracles x = e.by(LATE);
            int[][] behind = {{0, NONE, 2, 0}, {20, NONE, 2, 0}, {21, 0, 2, 4}, {59, 0, 2, 4},
                {60, LANDED, 3, 4}};
            for (int[] row : behind) {
                for (int what = 0; what <= 2; what++) {
                    int asked = what;
                    e.asks(x, row[0] + " " + what, () -> x.then(0, row[0], asked), row[1 + what]);
                }
            }
            x.steps(20);
            e.due("from now on", x.then(0, 1, 0), 0);
            e.due("from now on", x.then(0, 39, 0), 0);
            e.due("from now on", x.then(0, 40, 0), LANDED);
            x.steps(1);
            x.paddle(0, 1);
            e.due("with what was done", x.then(0, 1, 2), 6);
        });
        e.edge("WHOLE: behind how many STEPS (0 to 60) one is FAIR first; none.", () -> {
            e.due("behind 60", e.by(turnsIn(58)).when(0, 0), 60);
            RoundCoracles x = e.by(turnsIn(59));
            e.due("behind 61", x.when(0, 0), NONE);
            x.steps(1);
            e.due("behind 60 from now", x.when(0, 0), 60);
            e.due("never", e.by("reach 0 0;judge 0 0 0;").when(0, 0), NONE);
            RoundCoracles y = e.by("sides 2;reach 0 1;judge 0 0 0;", 1);
            e.due("behind 1", y.when(0, 0), 1);
            y.steps(1);
            e.due("now", y.when(0, 0), 0);
            e.due("landed", y.judge(0, 0), LANDED);
        });
        e.edge("LANDS: behind how many STEPS (0 to 60) one has LANDED first; none.", () -> {
            e.due("behind 60", e.by(landsIn(59)).when(0, 1), 60);
            RoundCoracles x = e.by(landsIn(60));
            e.due("behind 61", x.when(0, 1), NONE);
            x.steps(1);
            e.due("behind 60 from now", x.when(0, 1), 60);
            x.call(0);
            e.due("now", x.when(0, 1), 0);
            e.due("without reaches", e.by("judge 0 0 20;").when(0, 1), 21);
        });
        e.edge("FAIR ones then (bits), LANDED ones then (bits), who is on a REACH then (bits).", () -> {
            // The last one turns and sees both sides, the sixth one lands, the fifth one is ashore.
            RoundCoracles x = e.by("sides 2;turns lean=7;goes lean=5;reach 0 0;judge 0 0 0;judge 0 0 0;"
                    + "judge 0 0 0;judge 0 0 0;judge 0 0 20;judge 0 5 0;judge 0 0 0;judge 0 7 0;");
            e.due("fair", x.later(1, 0), 0);
            e.due("fair", x.later(2, 0), 128);
            e.due("landed", x.later(0, 1), 0);
            e.due("landed", x.later(1, 1), 32);
            e.due("on a reach", x.later(0, 2), 0);
            e.due("on a reach", x.later(1, 2), 207);
            e.due("on a reach", x.later(60, 2), 223);
        });
    }

    private void meetings() {
        e.edge("BESIDE: behind how many STEPS (0 to 60) two are on one REACH first; none.", () -> {
            String rule = "reach 0 0;reach 0 0;judge 0 0 0;judge 0 1 0;"
                    + "goes lean and step=0 or not lean and step=";
            e.due("behind 60", e.by(rule + "59;").beside(0, 1), 60);
            RoundCoracles x = e.by(rule + "60;");
            e.due("behind 61", x.beside(0, 1), NONE);
            x.steps(1);
            e.due("behind 60 from now", x.beside(1, 0), 60);
            x.carry(0, 1);
            e.due("now", x.beside(0, 1), 0);
            RoundCoracles y = e.by("reach 1 0;reach 1 0;judge 0 0 0;judge 0 0 0;judge 0 0 1;");
            e.due("first of more", y.beside(0, 1), 1);
            // One leaves a reach in the step in which the other one comes.
            e.due("never at the end of a step", y.beside(0, 2), NONE);
            e.due("both ashore, then landed", e.by("judge 0 0 3;judge 0 0 3;").beside(0, 1), NONE);
        });
        e.edge("CROWD: the REACH on which most are behind so many STEPS (0 to 60; of like ones the least);"
                + " none, if nobody is on any.", () -> {
            RoundCoracles x = e.by("goes lean*(step=0)+3*(step=59);reach 0 0;reach 0 0;reach 0 0;judge 0 0 0;"
                    + "judge 0 1 0;judge 0 1 0;judge 0 2 0;judge 0 2 0;");
            e.asks(x, "nobody yet", () -> x.later(0, 3), NONE);
            e.asks(x, "1 and 2 are like", () -> x.later(1, 3), 1);
            e.due("behind 59", x.later(59, 3), 1);
            e.due("nobody behind 60", x.later(60, 3), NONE);
            x.steps(1);
            e.due("now", x.later(0, 3), 1);
            x.carry(0, 2);
            e.due("the most", x.later(0, 3), 2);
            RoundCoracles y = e.by("reach 0 0;".repeat(9) + "judge 0 0 0;judge 0 0 5;", 1);
            y.carry(0, 8);
            e.due("the last reach", y.later(0, 3), 8);
            e.due("of one each the least", y.later(60, 3), 0);
            e.due("ashore and landed are none", e.by("judge 0 0 0;judge 0 0 9;").later(1, 3), NONE);
        });
        e.edge("FIRST of all who aren't LANDED now to land within 60 STEPS (of like ones the least); none.",
                () -> {
            e.due("in the 60th", e.by(landsIn(59)).first(), 0);
            RoundCoracles x = e.by(landsIn(60));
            e.due("in the 61st", x.first(), NONE);
            x.steps(1);
            e.due("in the 60th from now", x.first(), 0);
            x.call(0);
            e.due("landed now", x.first(), NONE);
            RoundCoracles y = e.by("reach 1 0;judge 0 0 5;judge 0 0 3;judge 0 0 3;judge 0 0 4;");
            e.due("of like ones the least", y.first(), 1);
            y.steps(4);
            e.due("of who aren't landed", y.first(), 3);
            y.steps(1);
            e.due("the last one", y.first(), 0);
            y.steps(1);
            e.due("all have", y.first(), NONE);
            e.due("without judges", e.by("reach 1 0;").first(), NONE);
            e.due("on a pool", e.by("reach 0 0;judge 0 0 0;").first(), NONE);
            e.due("by the flow", e.by("reach 0 0;reach 1 0;judge 0 0 0;judge 0 0 20;", 1).first(), NONE);
            e.due("the eighth", e.by("goes lean;reach 0 0;" + "judge 0 0 0;".repeat(7) + "judge 0 9 20;")
                    .first(), 7);
        });
    }

    private void counted() {
        e.edge("LAST SIDE: the SIDE that one has SEEN last of all, within 60 STEPS from now, SEEN first in one"
                + " of them; none, if one sees none more.", () -> {
            e.due("in the 60th", e.by(turnsIn(58)).last(0), 1);
            RoundCoracles x = e.by(turnsIn(59));
            e.due("in the 61st", x.last(0), 0);
            x.steps(1);
            e.due("in the 60th from now", x.last(0), 1);
            x.paddle(0, 1);
            x.steps(1);
            e.due("none more", x.last(0), NONE);
            // Sees 1, 2, 3, 0, and 1, 2 .. again.
            RoundCoracles y = e.by("goes 0;reach 0 1;judge 1 0 0;");
            e.due("first in one of them", y.last(0), 0);
            y.steps(3);
            e.due("one more", y.last(0), 0);
            y.steps(1);
            e.due("none more", y.last(0), NONE);
            e.due("landed at once", e.by("judge 3 0 0;").last(0), NONE);
            e.due("the eighth side", e.by("sides 8;reach 0 1;judge 0 0 20;").last(0), 7);
        });
        e.edge("STILL: for how many of so many STEPS (1 to 60) one is on a POOL (of FLOW 0 now) at the end.",
                () -> {
            RoundCoracles x = e.by("reach 1 0;reach 0 0;judge 0 0 20;");
            e.due("ashore", x.still(0, 20, 0), 0);
            e.due("at the end of the 21st", x.still(0, 21, 0), 1);
            e.due("60", x.still(0, 60, 0), 40);
            x.steps(20);
            e.due("1", x.still(0, 1, 0), 1);
            e.due("60", x.still(0, 60, 0), 60);
            x.steps(1);
            e.due("on it now, and at the ends", x.still(0, 60, 0), 60);
            x.dredge(1, 1, 0);
            e.due("no pool now", x.still(0, 60, 0), 0);
            x.dredge(1, 0, 0);
            x.call(0);
            e.due("landed", x.still(0, 60, 0), 0);
            RoundCoracles y = e.by("goes 0;reach 1 0;judge 0 0 0;");
            e.due("one stays, but on no pool", y.still(0, 60, 0), 0);
            y.dredge(0, 0, 0);
            e.due("dredged to be one", y.still(0, 60, 0), 60);
        });
        e.edge("TURNED in so many STEPS (0 to 60): by how many SIDES one turns, all together (as many as were"
                + " turned by, more than once round, too; PADDLING isn't turning).", () -> {
            RoundCoracles x = e.by("turns 30;goes 0;reach 0 0;judge 0 0 1;bigot 0 0 0;");
            e.due("0", x.turned(0, 0), 0);
            e.due("ashore", x.turned(0, 1), 0);
            e.due("2", x.turned(0, 2), 30);
            e.due("60", x.turned(0, 60), 59 * 30);
            e.due("a bigot", x.turned(1, 60), 60 * 15);
            x.paddle(0, 3);
            x.steps(5);
            e.due("0 from now", x.turned(0, 0), 0);
            e.due("60 from now", x.turned(0, 60), 1800);
            x.call(0);
            e.due("landed", x.turned(0, 60), 0);
        });
        e.edge("LONGEST STAY: the most STEPS of the next 60, one behind the other, at whose ends one is on one"
                + " and the same REACH (0: on none at any; ASHORE and LANDED don't count).", () -> {
            e.due("all", e.by("reach 0 0;judge 0 0 0;").stay(0), 60);
            e.due("ashore for 20", e.by("reach 0 0;judge 0 0 20;").stay(0), 40);
            RoundCoracles x = e.by("goes step=2 or step=7 or step=10;" + "reach 0 0;".repeat(3)
                    + "judge 0 0 0;");
            // At the ends of 2 steps on 0, of 5 on 1, of 3 on 2.
            e.due("of 2, 5, 3", x.stay(0), 5);
            x.steps(3);
            e.due("of 4, 3", x.stay(0), 4);
            x.steps(3);
            e.due("of 1, 3", x.stay(0), 3);
            x.steps(4);
            e.due("on it now, not at any end", x.stay(0), 0);
            x.steps(1);
            e.due("landed", x.stay(0), 0);
            e.due("one each", e.by("reach 1 0;".repeat(9) + "judge 0 0 0;").stay(0), 1);
            e.due("landed at once", e.by("judge 0 0 0;").stay(0), 0);
        });
        e.edge("ALONE: in how many of so many STEPS (1 to 60) one is on a REACH at the end, and nobody else is"
                + " on it.", () -> {
            RoundCoracles x = e.by("reach 0 0;reach 0 0;judge 0 0 0;judge 0 0 20;");
            e.due("1", x.still(0, 1, 1), 1);
            e.due("20", x.still(0, 20, 1), 20);
            e.due("21", x.still(0, 21, 1), 20);
            e.due("60", x.still(0, 60, 1), 20);
            e.due("ashore, and not alone", x.still(1, 60, 1), 0);
            x.steps(1);
            x.carry(0, 1);
            e.due("on another reach", x.still(0, 60, 1), 60);
            e.due("the other one", x.still(1, 60, 1), 41);
            x.call(0);
            e.due("landed", x.still(0, 60, 1), 0);
            e.due("on no pool", e.by("goes 0;reach 3 0;judge 0 0 0;").still(0, 60, 1), 60);
        });
    }

    private void advice() {
        e.edge("TO SET: the SIDE that one should FACE now, so that one is FAIR soonest (within 60 STEPS; of like"
                + " ones the least; who is FAIR now: SIDE 0, behind 0; who is LANDED and isn't: none): which;"
                + " behind how many; none.", () -> {
            String rule = "sides 2;turns faces=1 and step=";
            setTo(e.by(rule + "58;reach 0 0;judge 0 0 0;"), 1, 60);
            RoundCoracles x = e.by(rule + "59;reach 0 0;judge 0 0 0;");
            setTo(x, NONE, NONE);
            x.steps(1);
            // Side 0 has been seen in the step: to face the other one is to see all.
            setTo(x, 1, 1);
            setTo(e.by("sides 3;reach 0 1;judge 2 0 0;"), 0, 3);
            RoundCoracles y = e.by("sides 3;goes 0;reach 0 1;judge 2 0 0;", 3);
            setTo(y, 0, 0);
            y.call(0);
            setTo(y, 0, 0);
            RoundCoracles z = e.by("sides 3;goes 0;reach 0 1;judge 2 0 0;", 2);
            setTo(z, 1, 1);
            z.call(0);
            setTo(z, NONE, NONE);
            setTo(e.by("sides 8;reach 0 1;judge 5 0 20;"), 0, 28);
            setTo(e.by("sides 2;reach 0 0;judge 0 0 0;"), NONE, NONE);
        });
        e.edge("TO SPIN: the SPIN (0 to 7) that a REACH should have from now on, (also the one it has), so that"
                + " most are FAIR behind so many STEPS (1 to 60; of like ones the least): which; how many.",
                () -> {
            RoundCoracles x = e.by("sides 2;reach 0 0;judge 0 6 0;judge 0 9 0;");
            spinTo(x, 1, 0, 0);
            spinTo(x, 2, 7, 1);
            spinTo(x, 60, 7, 1);
            x.dredge(0, 0, 7);
            spinTo(x, 2, 7, 1);
            RoundCoracles y = e.by("sides 2;turns spin=3 and step=58;reach 0 5;judge 0 0 0;");
            spinTo(y, 59, 0, 0);
            spinTo(y, 60, 3, 1);
            y.steps(1);
            spinTo(y, 58, 0, 0);
            spinTo(y, 59, 3, 1);
            spinTo(e.by("sides 2;turns spin=0;reach 0 7;judge 0 0 0;"), 2, 0, 1);
            // 1, 3, 5, 7 show both sides to the first one, 2, 4, 6 to the other one; 3, 5, 7 to a third.
            spinTo(e.by("sides 2;goes 0;reach 0 0;judge 0 0 0;judge 0 1 0;judge 0 2 0;"), 2, 3, 2);
            RoundCoracles z = e.by("sides 2;reach 0 1;judge 0 0 0;", 2);
            spinTo(z, 1, 0, 1);
        });
        e.edge("TO CALL: of those who are on a REACH the one by whose CALL now a told one would be FAIR soonest,"
                + " if sooner than without (of like ones the least; oneself, too); none.", () -> {
            RoundCoracles x = e.by("sides 2;reach 0 0;reach 0 1;judge 0 0 0;judge 0 0 1;");
            e.asks(x, "ashore", () -> x.toCall(0), NONE);
            x.steps(1);
            e.asks(x, "oneself", () -> x.toCall(0), 0);
            e.asks(x, "one who is ashore", () -> x.toCall(1), NONE);
            x.call(0);
            e.asks(x, "not sooner", () -> x.toCall(0), NONE);
            x.call(0);
            e.asks(x, "landed", () -> x.toCall(0), NONE);
            RoundCoracles y = e.by("sides 2;turns here=0;goes 0;reach 0 0;reach 0 0;judge 0 0 0;judge 0 0 0;",
                    1);
            e.asks(y, "of like ones the least", () -> y.toCall(0), 0);
            e.asks(y, "another one", () -> y.toCall(1), 0);
            // The second one turns alone; the call of either lets it, but the first one's is sooner.
            RoundCoracles z = e.by("sides 2;turns here=0 and (lean=0 or 4<step);goes 0;reach 0 0;reach 0 0;"
                    + "judge 0 1 0;judge 0 0 0;", 1);
            e.asks(z, "late, but sooner than never", () -> z.toCall(0), 0);
            RoundCoracles w = e.by("sides 2;turns lean=1 or here=0 and 1<lean;goes 0;reach 0 0;reach 0 0;"
                    + "judge 0 1 0;judge 0 2 0;judge 0 2 0;", 1);
            e.asks(w, "sees it anyhow", () -> w.toCall(0), NONE);
            e.asks(w, "oneself, not the least", () -> w.toCall(2), 2);
            e.asks(w, "oneself, not the least", () -> w.toCall(1), 1);
            w.steps(1);
            e.asks(w, "fair now", () -> w.toCall(0), NONE);
            callsWithin60();
            // On a reach that carries one to the other one, where one turns: behind 3, by a call 2.
            RoundCoracles v = e.by("sides 2;reach 1 0;reach 0 1;judge 0 0 0;", 1);
            v.carry(0, 0);
            e.asks(v, "without", () -> v.when(0, 0), 3);
            e.asks(v, "sooner by one", () -> v.toCall(0), 0);
            // Eight, of whom the last one alone may be called.
            RoundCoracles u = e.by("sides 2;turns spin and lean;goes 0;reach 0 0;reach 0 1;"
                    + "judge 0 0 20;".repeat(7) + "judge 0 1 0;", 1);
            e.asks(u, "the eighth", () -> u.toCall(7), 7);
            e.asks(u, "of eight", () -> u.toCall(0), NONE);
        });
    }

    /** By a call one would see the second side behind 60 steps, or behind 61. */
    private void callsWithin60() {
        String rule = "sides 2;turns spin=1 and step=";
        String rest = ";goes 0;reach 0 0;reach 0 1;judge 0 0 0;";
        RoundCoracles x = e.by(rule + 59 + rest, 1);
        e.asks(x, "behind 60", () -> x.toCall(0), 0);
        RoundCoracles y = e.by(rule + 60 + rest, 1);
        e.asks(y, "behind 61", () -> y.toCall(0), NONE);
    }

    private void setTo(RoundCoracles x, int side, int behind) {
        e.asks(x, "the side", () -> x.toSet(0, 0), side);
        e.asks(x, "behind how many", () -> x.toSet(0, 1), behind);
    }

    private void spinTo(RoundCoracles x, int steps, int spin, int many) {
        e.asks(x, "the spin in " + steps, () -> x.toSpin(0, steps, 0), spin);
        e.asks(x, "how many in " + steps, () -> x.toSpin(0, steps, 1), many);
    }

    private void bench() {
        e.edge("BENCH: the fewest JUDGES who have SEEN all SIDES now, all together: of as few the least as bits;"
                + " none.", () -> {
            e.due("none now", e.by("sides 2;reach 0 1;judge 0 0 0;").count(8), NONE);
            e.due("without judges", e.by("sides 2;reach 0 1;", 9).count(8), NONE);
            RoundCoracles x = e.by("sides 8;reach 0 0;judge 0 0 0;judge 1 0 0;judge 2 0 0;judge 3 0 0;"
                    + "judge 4 0 0;judge 5 0 0;judge 6 0 0;judge 7 0 1;", 1);
            e.due("seven of eight", x.count(8), NONE);
            x.steps(1);
            e.due("all eight", x.count(8), 255);
            // 0: 0 and 2, 1: 0 and 1, 2: 2 and 3, 3: 1 and 3.
            RoundCoracles y = e.by("reach 0 0;judge 0 0 0;judge 0 0 0;judge 2 0 0;judge 1 0 0;judge 0 0 0;", 1);
            y.paddle(0, 2);
            y.paddle(1, 1);
            y.paddle(2, 3);
            y.paddle(3, 3);
            y.steps(1);
            e.due("the least of 6 and 9", y.count(8), 6);
            for (int side = 1; side < 4; side++) {
                y.paddle(4, side);
                y.steps(1);
            }
            e.due("the fewest, though not the least", y.count(8), 16);
        });
        e.edge("UNLIKE of two now: how many SIDES the one has SEEN and the other one not, either way.", () -> {
            RoundCoracles x = e.by("sides 8;goes 0;turns lean;reach 0 0;judge 0 1 0;judge 0 1 20;judge 7 0 0;");
            e.due("none yet", x.unlike(0, 1), 0);
            x.steps(1);
            e.due("either way", x.unlike(0, 2), 2);
            x.steps(7);
            e.due("all and none", x.unlike(0, 1), 8);
            e.due("none and all", x.unlike(1, 0), 8);
            e.due("all and one", x.unlike(2, 0), 7);
            e.due("oneself", x.unlike(0, 0), 0);
        });
    }

    private void panelTerms() {
        e.edge("PANEL: each SIDE is given to a JUDGE who has SEEN it now, no two SIDES to one, as many as can,",
                () -> {
            panelIs(e.by("reach 0 1;judge 0 0 0;"), 0, 0, NONE, NONE, NONE, NONE);
            panelIs(e.by("goes 0;reach 0 1;judge 0 0 0;", 4), 1, 0, 0, NONE, NONE, NONE);
            // The first one has seen 0 and 1, the second one 0 alone.
            RoundCoracles x = e.by("sides 3;reach 0 0;judge 0 0 0;judge 0 9 0;", 1);
            panelIs(x, 1, 0, 0, NONE, NONE);
            x.paddle(0, 1);
            x.steps(1);
            panelIs(x, 2, 9, 1, 0, NONE);
            // Each has seen all: all sides are given, and nobody has two.
            panelIs(e.by("sides 8;turns 1;goes 0;reach 0 0;" + "judge 0 9 0;".repeat(8), 8), 8, 72,
                    0, 1, 2, 3, 4, 5, 6, 7);
            panelIs(e.by("sides 2;turns 1;goes 0;reach 0 0;" + "judge 0 9 0;".repeat(8), 2), 2, 18, 0, 1);
            // A row of three moves on: 0 has seen 0, 1; 1 has 1, 2; 2 has 2 alone and 3 has 0 alone.
            RoundCoracles y = e.by("reach 0 0;judge 0 0 0;judge 1 0 0;judge 2 0 0;judge 0 0 9;", 1);
            y.paddle(0, 1);
            y.paddle(1, 2);
            y.steps(1);
            panelIs(y, 3, 0, 0, 1, 2, NONE);
        });
        e.edge("and of these ways that by which LEAN (of those to whom one is given) is least, all together: how"
                + " many; how much;", () -> {
            panelIs(e.by("sides 2;reach 0 0;judge 0 5 0;judge 0 2 0;judge 0 3 0;", 1), 1, 2, 1, NONE);
            // 0 of lean 9 has seen 0, 1; 1 of lean 5 has 0; 2 of lean 3 has 1: not the first one.
            RoundCoracles x = e.by("sides 2;reach 0 0;judge 0 9 0;judge 0 5 0;judge 1 3 0;", 1);
            panelIs(x, 2, 8, 1, 2);
            x.paddle(0, 1);
            x.steps(1);
            panelIs(x, 2, 8, 1, 2);
            // More sides go ahead of less lean.
            panelIs(e.by("sides 2;reach 0 0;judge 0 0 0;judge 1 9 0;", 1), 2, 9, 0, 1);
        });
        e.edge("to whom a SIDE is given: of like ones the first row (by SIDES: to whom; to nobody behind all).",
                () -> {
            panelIs(e.by("sides 3;goes 0;reach 0 1;judge 0 0 0;judge 0 0 0;", 3), 2, 0, 0, 1, NONE);
            // 0 has seen all of three, 1 but the last: 0 nobody 1 is ahead of nobody 0 1.
            RoundCoracles x = e.by("sides 3;reach 0 0;judge 0 0 0;judge 2 0 0;", 1);
            x.paddle(0, 1);
            x.steps(1);
            panelIs(x, 2, 0, 0, NONE, 1);
            // 0 and 1 have seen 0 and 1, of like lean.
            RoundCoracles y = e.by("sides 2;reach 0 0;judge 1 4 0;judge 0 4 0;judge 0 4 0;", 1);
            panelIs(y, 2, 8, 1, 0);
            y.paddle(0, 0);
            y.steps(1);
            panelIs(y, 2, 8, 1, 0);
            y.paddle(1, 1);
            y.steps(1);
            panelIs(y, 2, 8, 0, 1);
            panelAnew();
        });
    }

    /** On one object more is given, then less, of more sides and of fewer. */
    private void panelAnew() {
        RoundCoracles x = e.by("sides 8;reach 0 0;judge 0 1 0;judge 1 2 1;judge 2 3 2;judge 3 4 2;"
                + "judge 4 5 2;judge 5 6 2;judge 6 7 2;judge 0 8 2;");
        x.steps(1);
        panelIs(x, 1, 1, 0, NONE, NONE, NONE, NONE, NONE, NONE, NONE);
        x.steps(2);
        panelIs(x, 7, 28, 0, 1, 2, 3, 4, 5, 6, NONE);
        x.undo();
        panelIs(x, 1, 1, 0, NONE, NONE, NONE, NONE, NONE, NONE, NONE);
        e.due("fewer sides", Edges.tell(x, "sides 2;goes 0;reach 0 3;judge 0 2 0;judge 0 1 1;"), 0);
        x.steps(1);
        panelIs(x, 1, 2, 0, NONE);
        x.steps(1);
        panelIs(x, 2, 3, 1, 0);
        e.due("more sides", Edges.tell(x, "sides 3;reach 0 0;judge 2 9 0;"), 0);
        x.steps(1);
        panelIs(x, 1, 9, NONE, NONE, 0);
        for (int lean = 0; lean <= 5; lean += 5) {
            e.due("three sides", Edges.tell(x, "sides 3;reach 0 0;judge 2 0 0;judge 1 0 20;"), 0);
            x.steps(1);
            panelIs(x, 1, 0, NONE, NONE, 0);
            e.due("two", Edges.tell(x, "sides 2;reach 0 0;judge 0 " + lean + " 0;judge 0 9 0;"), 0);
            x.steps(1);
            panelIs(x, 1, lean, 0, NONE);
        }
    }

    private void panelIs(RoundCoracles x, int many, int much, int... seats) {
        e.asks(x, "how many", () -> x.panel(0), many);
        e.asks(x, "how much", () -> x.panel(1), much);
        for (int s = 0; s < seats.length; s++) {
            int side = s;
            e.asks(x, "seat " + s, () -> x.seat(side), seats[s]);
        }
    }

    private void then() {
        e.edge("THEN: WHERE (what 0), the SIDE one FACES (1), what one has SEEN (2; bits).", () -> {
            RoundCoracles x = e.by(LATE);
            e.asks(x, "where", () -> x.then(0, 59, 0), 0);
            e.asks(x, "faces", () -> x.then(0, 60, 1), 3);
            e.asks(x, "seen", () -> x.then(0, 60, 2), 4);
        });
        e.edge("NoSuchElementException: also another what.", () -> {
            RoundCoracles x = e.by(LATE);
            e.nse(x, "what 3", () -> x.then(0, 0, 3));
            e.nse(x, "what -1", () -> x.then(0, 0, -1));
            e.nse(x, "judge 1", () -> x.then(1, 0, 0));
            for (int far : FAR) {
                e.nse(x, "what " + far, () -> x.then(0, 0, far));
            }
        });
        e.edge("IllegalArgumentException (behind that): not 0 to 60.", () -> {
            RoundCoracles x = e.by(LATE);
            e.iae(x, "61", () -> x.then(0, 61, 0));
            e.iae(x, "-1", () -> x.then(0, -1, 2));
            for (int far : FAR) {
                e.iae(x, "steps " + far, () -> x.then(0, far, 1));
            }
            e.nse(x, "no judge ahead", () -> x.then(1, 61, 0));
            e.nse(x, "no what ahead", () -> x.then(0, 61, 3));
            e.asks(x, "0", () -> x.then(0, 0, 0), NONE);
            e.asks(x, "60", () -> x.then(0, 60, 0), LANDED);
        });
    }

    private void when() {
        e.edge("WHOLE (what 0), LANDS (1); NONE: none.", () -> {
            RoundCoracles x = e.by("sides 2;reach 0 1;reach 0 0;judge 0 0 0;judge 0 1 0;");
            e.asks(x, "whole", () -> x.when(0, 0), 2);
            e.asks(x, "lands", () -> x.when(0, 1), 3);
            e.asks(x, "never whole", () -> x.when(1, 0), NONE);
            e.asks(x, "never lands", () -> x.when(1, 1), NONE);
        });
        e.edge("NoSuchElementException: also another what.", () -> {
            RoundCoracles x = e.by("reach 0 1;judge 0 0 0;");
            e.nse(x, "what 2", () -> x.when(0, 2));
            e.nse(x, "what -1", () -> x.when(0, -1));
            e.nse(x, "judge 1", () -> x.when(1, 0));
            for (int far : FAR) {
                e.nse(x, "what " + far, () -> x.when(0, far));
            }
        });
    }

    private void later() {
        e.edge("FAIR ones (what 0; bits), LANDED ones (1; bits), who is on a REACH (2; bits), CROWD (3; NONE).",
                () -> {
            RoundCoracles x = e.by("sides 2;goes 2*lean*(step=1);turns 1;reach 0 0;reach 0 0;judge 0 0 1;"
                    + "judge 0 0 0;judge 0 1 0;");
            e.asks(x, "fair", () -> x.later(2, 0), 6);
            e.asks(x, "landed", () -> x.later(2, 1), 4);
            e.asks(x, "on a reach", () -> x.later(2, 2), 3);
            e.asks(x, "crowd", () -> x.later(2, 3), 0);
            e.asks(x, "no crowd", () -> x.later(0, 3), NONE);
        });
        e.edge("NoSuchElementException: another what.", () -> {
            RoundCoracles x = e.by("reach 0 1;judge 0 0 0;");
            e.nse(x, "what 4", () -> x.later(0, 4));
            e.nse(x, "what -1", () -> x.later(0, -1));
            for (int far : FAR) {
                e.nse(x, "what " + far, () -> x.later(0, far));
            }
        });
        e.edge("IllegalArgumentException (behind that): not 0 to 60.", () -> {
            RoundCoracles x = e.by(landsIn(59));
            for (int what = 0; what <= 3; what++) {
                int asked = what;
                e.iae(x, "61", () -> x.later(61, asked));
                e.iae(x, "-1", () -> x.later(-1, asked));
            }
            for (int far : FAR) {
                e.iae(x, "steps " + far, () -> x.later(far, 0));
            }
            e.nse(x, "no what ahead", () -> x.later(61, 4));
            e.asks(x, "0", () -> x.later(0, 2), 0);
            e.asks(x, "59", () -> x.later(59, 1), 0);
            e.asks(x, "60", () -> x.later(60, 1), 1);
        });
    }

    private void beside() {
        e.edge("BESIDE; NONE: none, both are one.", () -> {
            RoundCoracles x = e.by("reach 0 0;judge 0 0 0;judge 0 0 20;judge 0 0 1;");
            e.asks(x, "two", () -> x.beside(0, 2), 2);
            e.asks(x, "two", () -> x.beside(1, 0), 21);
            x.steps(2);
            e.asks(x, "now", () -> x.beside(2, 0), 0);
            e.asks(x, "both are one, on a reach", () -> x.beside(0, 0), NONE);
            e.asks(x, "both are one, ashore", () -> x.beside(1, 1), NONE);
            x.call(0);
            e.asks(x, "none", () -> x.beside(0, 1), NONE);
            e.nse(x, "no such judge, both are one", () -> x.beside(3, 3));
        });
    }

    private void first() {
        e.edge("FIRST; NONE: none.", () -> {
            RoundCoracles x = e.by("reach 1 0;judge 0 0 1;judge 0 0 0;");
            e.asks(x, "first", x::first, 1);
            x.steps(2);
            e.asks(x, "none", x::first, NONE);
        });
    }

    private void last() {
        e.edge("LAST SIDE; NONE: none.", () -> {
            RoundCoracles x = e.by("goes 0;reach 0 1;judge 3 0 0;");
            e.asks(x, "last", () -> x.last(0), 2);
            x.steps(4);
            e.asks(x, "none", () -> x.last(0), NONE);
        });
    }

    private void still() {
        e.edge("STILL (what 0), ALONE (1).", () -> {
            RoundCoracles x = e.by("reach 1 0;reach 0 0;judge 0 0 0;judge 0 0 5;");
            e.asks(x, "still", () -> x.still(0, 9, 0), 9);
            e.asks(x, "alone", () -> x.still(0, 9, 1), 5);
        });
        e.edge("NoSuchElementException: also another what.", () -> {
            RoundCoracles x = e.by("reach 0 0;judge 0 0 0;");
            e.nse(x, "what 2", () -> x.still(0, 1, 2));
            e.nse(x, "what -1", () -> x.still(0, 1, -1));
            e.nse(x, "judge 1", () -> x.still(1, 1, 0));
            for (int far : FAR) {
                e.nse(x, "what " + far, () -> x.still(0, 1, far));
            }
        });
        e.edge("IllegalArgumentException (behind that): not 1 to 60.", () -> {
            RoundCoracles x = e.by("reach 0 0;judge 0 0 0;");
            for (int what = 0; what <= 1; what++) {
                int asked = what;
                e.iae(x, "0", () -> x.still(0, 0, asked));
                e.iae(x, "-1", () -> x.still(0, -1, asked));
                e.iae(x, "61", () -> x.still(0, 61, asked));
                e.asks(x, "1", () -> x.still(0, 1, asked), 1);
                e.asks(x, "60", () -> x.still(0, 60, asked), 60);
            }
            for (int far : FAR) {
                e.iae(x, "steps " + far, () -> x.still(0, far, 0));
            }
            e.nse(x, "no judge ahead", () -> x.still(1, 0, 0));
            e.nse(x, "no what ahead", () -> x.still(0, 0, 2));
        });
    }

    private void turned() {
        e.edge("TURNED.", () -> {
            RoundCoracles x = e.by("goes 0;reach 0 7;judge 0 2 0;");
            e.asks(x, "3", () -> x.turned(0, 3), 15);
        });
        e.edge("IllegalArgumentException (behind NoSuchElementException): not 0 to 60.", () -> {
            RoundCoracles x = e.by("goes 0;reach 0 1;judge 0 0 0;");
            e.iae(x, "-1", () -> x.turned(0, -1));
            e.iae(x, "61", () -> x.turned(0, 61));
            for (int far : FAR) {
                e.iae(x, "steps " + far, () -> x.turned(0, far));
            }
            e.nse(x, "no judge ahead", () -> x.turned(1, 61));
            e.asks(x, "0", () -> x.turned(0, 0), 0);
            e.asks(x, "60", () -> x.turned(0, 60), 60);
        });
    }

    private void stay() {
        e.edge("LONGEST STAY.", () -> {
            RoundCoracles x = e.by("reach 1 0;reach 0 0;judge 0 0 3;");
            e.asks(x, "57", () -> x.stay(0), 57);
        });
    }

    private void toSet() {
        e.edge("TO SET: which (what 0), behind how many (1); NONE: none.", () -> {
            RoundCoracles x = e.by("sides 2;turns faces=1;reach 0 0;judge 0 0 0;");
            setTo(x, 1, 2);
            setTo(e.by("sides 2;turns 0;reach 0 0;judge 0 0 0;"), NONE, NONE);
        });
        e.edge("NoSuchElementException: also another what.", () -> {
            RoundCoracles x = e.by("sides 2;turns faces=1;reach 0 0;judge 0 0 0;");
            e.nse(x, "what 2", () -> x.toSet(0, 2));
            e.nse(x, "what -1", () -> x.toSet(0, -1));
            e.nse(x, "judge 1", () -> x.toSet(1, 0));
            for (int far : FAR) {
                e.nse(x, "what " + far, () -> x.toSet(0, far));
            }
        });
    }

    private void toSpin() {
        e.edge("TO SPIN: which (what 0), how many (1).", () -> {
            RoundCoracles x = e.by("sides 2;reach 1 0;reach 0 0;judge 0 4 0;judge 0 4 0;");
            e.asks(x, "which", () -> x.toSpin(1, 9, 0), 5);
            e.asks(x, "how many", () -> x.toSpin(1, 9, 1), 2);
            e.asks(x, "of the other one", () -> x.toSpin(0, 9, 0), 5);
            e.asks(x, "without judges", () -> e.by("reach 0 3;").toSpin(0, 9, 0), 0);
            e.asks(x, "without judges", () -> e.by("reach 0 3;").toSpin(0, 9, 1), 0);
        });
        e.edge("NoSuchElementException: also another what.", () -> {
            RoundCoracles x = e.by("reach 0 0;judge 0 0 0;");
            e.nse(x, "what 2", () -> x.toSpin(0, 1, 2));
            e.nse(x, "what -1", () -> x.toSpin(0, 1, -1));
            e.nse(x, "reach 1", () -> x.toSpin(1, 1, 0));
            for (int far : FAR) {
                e.nse(x, "what " + far, () -> x.toSpin(0, 1, far));
            }
        });
        e.edge("IllegalArgumentException (behind that): not 1 to 60.", () -> {
            RoundCoracles x = e.by("reach 0 0;judge 0 0 0;");
            for (int what = 0; what <= 1; what++) {
                int asked = what;
                e.iae(x, "0", () -> x.toSpin(0, 0, asked));
                e.iae(x, "-1", () -> x.toSpin(0, -1, asked));
                e.iae(x, "61", () -> x.toSpin(0, 61, asked));
            }
            for (int far : FAR) {
                e.iae(x, "steps " + far, () -> x.toSpin(0, far, 0));
            }
            e.nse(x, "no reach ahead", () -> x.toSpin(1, 0, 0));
            e.nse(x, "no what ahead", () -> x.toSpin(0, 0, 2));
            e.asks(x, "1", () -> x.toSpin(0, 1, 1), 0);
            e.asks(x, "60", () -> x.toSpin(0, 60, 0), 1);
        });
    }

    private void toCall() {
        e.edge("TO CALL; NONE: none.", () -> {
            RoundCoracles x = e.by("sides 2;reach 0 0;reach 0 1;judge 0 0 0;", 1);
            e.asks(x, "oneself", () -> x.toCall(0), 0);
            x.call(0);
            e.asks(x, "none", () -> x.toCall(0), NONE);
        });
    }

    private void panel() {
        e.edge("PANEL: how many (what 0), how much (1).", () -> {
            RoundCoracles x = e.by("reach 0 0;judge 0 3 0;judge 1 4 0;", 1);
            e.asks(x, "how many", () -> x.panel(0), 2);
            e.asks(x, "how much", () -> x.panel(1), 7);
            RoundCoracles y = e.by("reach 0 0;");
            e.asks(y, "without judges", () -> y.panel(0), 0);
            e.asks(y, "without judges", () -> y.panel(1), 0);
        });
        e.edge("NoSuchElementException: another what.", () -> {
            RoundCoracles x = e.by("reach 0 0;judge 0 3 0;", 1);
            e.nse(x, "what 2", () -> x.panel(2));
            e.nse(x, "what -1", () -> x.panel(-1));
            for (int far : FAR) {
                e.nse(x, "what " + far, () -> x.panel(far));
            }
        });
    }

    private void seat() {
        e.edge("PANEL: to whom a SIDE is given; NONE: to nobody.", () -> {
            RoundCoracles x = e.by("sides 8;reach 0 0;judge 7 3 0;judge 1 4 0;", 1);
            e.asks(x, "1", () -> x.seat(1), 1);
            e.asks(x, "7", () -> x.seat(7), 0);
            e.asks(x, "0", () -> x.seat(0), NONE);
            x.steps(1);
            x.undo();
            x.undo();
            e.asks(x, "as it is now", () -> x.seat(7), NONE);
        });
        e.edge("NoSuchElementException: no such SIDE.", () -> {
            RoundCoracles x = e.by("sides 2;reach 0 0;judge 0 3 0;", 1);
            e.nse(x, "2", () -> x.seat(2));
            e.nse(x, "-1", () -> x.seat(-1));
            for (int far : FAR) {
                e.nse(x, "side " + far, () -> x.seat(far));
            }
            RoundCoracles y = e.by("sides 8;");
            e.asks(y, "7", () -> y.seat(7), NONE);
            e.nse(y, "8", () -> y.seat(8));
        });
    }

    private void unlike() {
        e.edge("UNLIKE.", () -> {
            RoundCoracles x = e.by("reach 0 0;judge 0 0 0;judge 1 0 0;", 1);
            e.asks(x, "two", () -> x.unlike(0, 1), 2);
            e.asks(x, "one and the same", () -> x.unlike(1, 1), 0);
        });
    }

    private void sides() {
        e.edge("SIDES that some JUDGE has SEEN (what 0), that each JUDGE has SEEN (1; all SIDES without JUDGES),"
                + " behind so many STEPS, if only these go by, as bits.", () -> {
            RoundCoracles x = e.by("sides 8;turns lean;goes 0;reach 0 0;judge 6 1 0;judge 7 0 1;");
            int[][] behind = {{0, 0, 0}, {1, 64, 0}, {2, 192, 128}, {3, 193, 128}, {60, 255, 128}};
            for (int[] row : behind) {
                e.asks(x, "some behind " + row[0], () -> x.sides(row[0], 0), row[1]);
                e.asks(x, "each behind " + row[0], () -> x.sides(row[0], 1), row[2]);
            }
            for (int sides = 2; sides <= 8; sides++) {
                RoundCoracles y = e.by("sides " + sides + ";reach 0 0;");
                e.asks(y, "some without judges", () -> y.sides(0, 0), 0);
                e.asks(y, "each without judges", () -> y.sides(0, 1), (1 << sides) - 1);
            }
        });
        e.edge("NoSuchElementException: another what.", () -> {
            RoundCoracles x = e.by("reach 0 0;judge 0 3 0;", 1);
            e.nse(x, "what 2", () -> x.sides(0, 2));
            e.nse(x, "what -1", () -> x.sides(0, -1));
            for (int far : FAR) {
                e.nse(x, "what " + far, () -> x.sides(0, far));
            }
        });
        e.edge("IllegalArgumentException (behind that): not 0 to 60.", () -> {
            RoundCoracles x = e.by(turnsIn(58));
            for (int what = 0; what <= 1; what++) {
                int asked = what;
                e.iae(x, "-1", () -> x.sides(-1, asked));
                e.iae(x, "61", () -> x.sides(61, asked));
                e.asks(x, "0", () -> x.sides(0, asked), 0);
                e.asks(x, "59", () -> x.sides(59, asked), 1);
                e.asks(x, "60", () -> x.sides(60, asked), 3);
            }
            for (int far : FAR) {
                e.iae(x, "steps " + far, () -> x.sides(far, 0));
            }
            e.nse(x, "no what ahead", () -> x.sides(61, 2));
        });
    }

    private void facing() {
        e.edge("Who is on a REACH and FACES a SIDE behind so many STEPS, if only these go by, as bits.", () -> {
            // All face 7 at the end, but the seventh one is ashore and the sixth one lands.
            RoundCoracles x = e.by("sides 8;goes lean;reach 0 0;" + "judge 7 0 0;".repeat(5)
                    + "judge 7 1 0;judge 7 0 20;judge 7 0 0;");
            e.asks(x, "ashore", () -> x.facing(7, 0), 0);
            e.asks(x, "on a reach", () -> x.facing(7, 1), 159);
            e.asks(x, "another side", () -> x.facing(0, 1), 0);
            e.asks(x, "all but who has landed", () -> x.facing(7, 21), 223);
            RoundCoracles y = e.by("goes 0;reach 0 1;judge 0 0 0;");
            e.asks(y, "turned to behind it", () -> y.facing(1, 1), 1);
            e.asks(y, "no more", () -> y.facing(0, 1), 0);
        });
        e.edge("NoSuchElementException: no such SIDE.", () -> {
            RoundCoracles x = e.by("sides 2;reach 0 0;judge 0 3 0;", 1);
            e.nse(x, "2", () -> x.facing(2, 0));
            e.nse(x, "-1", () -> x.facing(-1, 0));
            for (int far : FAR) {
                e.nse(x, "side " + far, () -> x.facing(far, 0));
            }
            RoundCoracles y = e.by("sides 8;");
            e.asks(y, "7", () -> y.facing(7, 0), 0);
            e.nse(y, "8", () -> y.facing(8, 0));
        });
        e.edge("IllegalArgumentException (behind that): not 0 to 60.", () -> {
            RoundCoracles x = e.by("turns step=59;goes 0;reach 0 0;judge 0 0 0;");
            e.iae(x, "-1", () -> x.facing(0, -1));
            e.iae(x, "61", () -> x.facing(0, 61));
            for (int far : FAR) {
                e.iae(x, "steps " + far, () -> x.facing(0, far));
            }
            e.nse(x, "no side ahead", () -> x.facing(4, 61));
            e.asks(x, "0", () -> x.facing(0, 0), 0);
            e.asks(x, "59", () -> x.facing(0, 59), 1);
            e.asks(x, "60", () -> x.facing(1, 60), 1);
        });
    }

    private void agree() {
        e.edge("In how many of so many STEPS, if only these go by, two are on REACHES at the end (one and the"
                + " same or not) and FACE one SIDE.", () -> {
            RoundCoracles x = e.by("turns lean;goes 0;reach 0 0;reach 0 0;judge 1 0 0;judge 1 0 20;judge 1 1 0;");
            e.asks(x, "one is ashore", () -> x.agree(0, 1, 20), 0);
            e.asks(x, "both are there", () -> x.agree(0, 1, 21), 1);
            e.asks(x, "60", () -> x.agree(1, 0, 60), 40);
            // The third one faces 2, 3, 0, 1 at the ends of the first four steps.
            e.asks(x, "not at the first ends", () -> x.agree(0, 2, 3), 0);
            e.asks(x, "at the fourth end", () -> x.agree(2, 0, 4), 1);
            e.asks(x, "each fourth one", () -> x.agree(0, 2, 60), 15);
            x.steps(20);
            x.carry(0, 1);
            e.asks(x, "on unlike reaches", () -> x.agree(0, 1, 60), 60);
            e.asks(x, "one and the same judge", () -> x.agree(0, 0, 7), 7);
            x.call(0);
            e.asks(x, "landed", () -> x.agree(0, 1, 60), 0);
            e.asks(x, "landed, one and the same", () -> x.agree(0, 0, 60), 0);
        });
        e.edge("IllegalArgumentException (behind NoSuchElementException): not 1 to 60.", () -> {
            RoundCoracles x = e.by("reach 0 0;judge 0 0 0;judge 0 0 0;");
            e.iae(x, "0", () -> x.agree(0, 1, 0));
            e.iae(x, "-1", () -> x.agree(0, 1, -1));
            e.iae(x, "61", () -> x.agree(0, 1, 61));
            for (int far : FAR) {
                e.iae(x, "steps " + far, () -> x.agree(0, 1, far));
            }
            e.nse(x, "no judge ahead", () -> x.agree(2, 0, 0));
            e.nse(x, "no other ahead", () -> x.agree(0, 2, 61));
            e.asks(x, "1", () -> x.agree(0, 1, 1), 1);
            e.asks(x, "60", () -> x.agree(0, 1, 60), 60);
        });
    }
}
