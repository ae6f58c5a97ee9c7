/** The edges of what changes: chapter 2 of the terms, promises 5 to 13, 39 and 40. */
final class StepEdges {
    private static final String POOLS = "reach 0 0;".repeat(9);
    private static final int NONE = Edges.NONE;
    private static final int LANDED = Edges.LANDED;

    private final Edges e;

    StepEdges(Edges edges) {
        e = edges;
    }

    void all() {
        e.chapter(Edges.TERMS);
        lettingGo();
        turning();
        goingOn();
        acts();
        status();
        e.chapter(5);
        count();
        e.chapter(6);
        reach();
        e.chapter(7);
        judge();
        e.chapter(8);
        steps();
        e.chapter(9);
        call();
        e.chapter(10);
        paddle();
        e.chapter(11);
        carry();
        e.chapter(12);
        dredge();
        e.chapter(13);
        undo();
        e.chapter(39);
        image();
        e.chapter(40);
        restore();
    }

    private void lettingGo() {
        e.edge("A JUDGE is ASHORE above till one is LET GO, then on a REACH, then LANDED below.", () -> {
            RoundCoracles x = e.by("reach 1 0;reach 1 0;judge 0 0 2;");
            int[] where = {NONE, NONE, NONE, 1, LANDED, LANDED};
            for (int t = 0; t < where.length; t++) {
                e.due("behind " + t, x.then(0, t, 0), where[t]);
            }
            for (int t = 1; t < where.length; t++) {
                x.steps(1);
                e.due("at " + t, x.judge(0, 0), where[t]);
            }
        });
        e.edge("In STEP t: JUDGE by JUDGE who is to be LET GO in STEP t, and is ASHORE still, is on REACH 0"
                + " (LANDED at once, if there are no REACHES).", () -> {
            RoundCoracles x = e.by("reach 0 0;judge 0 0 0;judge 0 0 20;judge 0 0 1;");
            e.due("0, not yet", x.then(0, 0, 0), NONE);
            e.due("0", x.then(0, 1, 0), 0);
            e.due("1, not yet", x.then(2, 1, 0), NONE);
            e.due("1", x.then(2, 2, 0), 0);
            e.due("20, not yet", x.then(1, 20, 0), NONE);
            e.due("20", x.then(1, 21, 0), 0);
            // The first one drifts when the others of the step are on the reach already.
            e.due("all ahead of drifting", e.by("turns here;reach 0 0;judge 0 0 0;judge 0 0 0;"
                    + "judge 0 0 0;").turned(0, 1), 2);
            RoundCoracles y = e.by("judge 0 0 0;judge 1 0 20;");
            e.due("ashore", y.then(0, 0, 0), NONE);
            e.due("at once", y.then(0, 1, 0), LANDED);
            e.due("ashore", y.then(1, 20, 0), NONE);
            e.due("at once", y.then(1, 21, 0), LANDED);
            e.due("nothing is seen", y.then(0, 60, 2), 0);
            e.due("the side stays", y.then(1, 60, 1), 1);
            RoundCoracles z = e.by("reach 3 0;judge 0 0 3;", 4);
            e.due("landed", z.judge(0, 0), LANDED);
            z.carry(0, 0);
            e.due("on a reach, not let go again", z.then(0, 1, 0), LANDED);
            z.undo();
            z.undo();
            e.due("ashore again", z.judge(0, 0), NONE);
            e.due("let go again", z.then(0, 4, 0), LANDED);
        });
    }

    private void turning() {
        e.edge("Then JUDGE by JUDGE who is on a REACH: one has SEEN the SIDE that one FACES;", () -> {
            RoundCoracles x = e.by("reach 0 1;reach 0 0;judge 3 0 0;judge 0 0 1;");
            e.due("none yet", x.then(0, 0, 2), 0);
            e.due("what one faced, not what one faces", x.then(0, 1, 2), 8);
            e.due("one more", x.then(0, 2, 2), 9);
            e.due("ashore", x.then(1, 1, 2), 0);
            e.due("then", x.then(1, 2, 2), 1);
            x.steps(1);
            x.call(0);
            x.call(0);
            x.steps(5);
            e.due("landed", x.judge(0, 2), 8);
            // In one and the same step the second one is there alone.
            RoundCoracles y = e.by("goes here;reach 0 0;reach 0 0;judge 0 0 0;judge 0 0 0;", 1);
            e.due("the first one goes", y.judge(0, 0), 1);
            e.due("the second one stays", y.judge(1, 0), 0);
        });
        e.edge("then one turns by so many SIDES as TURNS, by what is so at one's turn, gives, kept to 0 to"
                + " 30", () -> {
            e.gives("29", 29);
            e.gives("30", 30);
            e.gives("31", 30);
            e.gives("9999", 30);
            e.gives("1", 1);
            e.gives("0", 0);
            e.gives("0-1", 0);
            e.gives("0-9999", 0);
            e.gives("seen", 1);
            RoundCoracles x = e.by("turns here+1;goes lean;reach 0 0;judge 0 3 0;judge 0 0 0;");
            e.due("two there", x.turned(0, 1), 2);
            e.due("one has gone", x.turned(1, 1), 1);
        });
        e.edge("(without it SPIN of the REACH, less LEAN, not below 0),", () -> {
            int[][] spinLeanTurn = {{7, 0, 7}, {7, 6, 1}, {7, 7, 0}, {7, 8, 0}, {7, 9, 0}, {0, 0, 0},
                {0, 9, 0}, {1, 0, 1}};
            for (int[] row : spinLeanTurn) {
                RoundCoracles x = e.by("reach 0 " + row[0] + ";judge 0 " + row[1] + " 0;");
                e.due("spin " + row[0] + ", lean " + row[1], x.turned(0, 1), row[2]);
            }
            RoundCoracles x = e.by("reach 1 1;reach 0 5;judge 0 0 0;");
            e.due("of the reach one is on", x.turned(0, 2), 6);
        });
        e.edge("a bigot by half of that, cut down:", () -> {
            int[][] turnHalf = {{0, 0}, {1, 0}, {2, 1}, {3, 1}, {29, 14}, {30, 15}, {31, 15}, {60, 15}};
            for (int[] row : turnHalf) {
                RoundCoracles x = e.by("turns " + row[0] + ";reach 0 0;bigot 0 0 0;");
                e.due("half of " + row[0], x.turned(0, 1), row[1]);
            }
            e.due("of below 0", e.by("turns 0-9;reach 0 0;bigot 0 0 0;").turned(0, 1), 0);
            e.due("of 7", e.by("reach 0 7;bigot 0 0 0;").turned(0, 1), 3);
            e.due("of 7 less 2", e.by("reach 0 7;bigot 0 2 0;").turned(0, 1), 2);
            e.due("of 7 less 9", e.by("reach 0 7;bigot 0 9 0;").turned(0, 1), 0);
            e.due("goes on as others do", e.by("reach 3 7;" + POOLS.substring(10) + "bigot 0 0 0;")
                    .then(0, 1, 0), 3);
        });
        e.edge("the SIDE one FACES is as many more, MOD how many SIDES;", () -> {
            int[][] sidesFacesTurnFaces = {{2, 1, 1, 0}, {2, 0, 30, 0}, {4, 3, 1, 0}, {4, 3, 4, 3},
                {4, 0, 3, 3}, {8, 7, 30, 5}, {8, 7, 0, 7}, {8, 7, 1, 0}, {3, 2, 29, 1}};
            for (int[] row : sidesFacesTurnFaces) {
                RoundCoracles x = e.by("sides " + row[0] + ";turns " + row[2] + ";reach 0 0;judge "
                        + row[1] + " 0 0;", 1);
                e.due(row[1] + " and " + row[2] + " of " + row[0], x.judge(0, 1), row[3]);
            }
        });
    }

    private void goingOn() {
        e.edge("then one goes on by so many REACHES as GOES, by what is so then, gives, kept to 0 to 3",
                () -> {
            int[][] goesWhere = {{0, 0}, {1, 1}, {2, 2}, {3, 3}, {4, 3}, {9999, 3}};
            for (int[] row : goesWhere) {
                RoundCoracles x = e.by("goes " + row[0] + ";" + POOLS + "judge 0 0 0;", 1);
                e.due("goes " + row[0], x.judge(0, 0), row[1]);
            }
            e.due("below 0", e.by("goes 0-1;reach 3 0;reach 3 0;judge 0 0 0;", 9).judge(0, 0), 0);
            e.due("the side that one has turned to", e.by("turns 2;goes faces;" + POOLS
                    + "judge 0 0 0;", 1).judge(0, 0), 2);
            e.due("what one has seen in it", e.by("goes seen;" + POOLS + "judge 0 0 0;", 1).judge(0, 0),
                    1);
            e.due("flow", e.by("goes flow;reach 2 0;" + POOLS.substring(10) + "judge 0 0 0;", 9)
                    .judge(0, 0), 2);
        });
        e.edge("(without it FLOW; from a POOL 1, if one has SEEN all SIDES):", () -> {
            for (int flow = 1; flow <= 3; flow++) {
                RoundCoracles x = e.by("reach " + flow + " 0;" + POOLS.substring(10) + "judge 0 0 0;");
                e.due("flow " + flow, x.then(0, 1, 0), flow);
                e.due("stays on a pool", x.then(0, 60, 0), flow);
            }
            // Sees 0 in step 0, 1 in step 1, and goes on at once in it.
            RoundCoracles y = e.by("sides 2;reach 0 1;reach 0 1;reach 2 0;reach 0 0;judge 0 0 0;");
            int[] where = {NONE, 0, 1, 2, LANDED};
            for (int t = 0; t < where.length; t++) {
                e.due("behind " + t, y.then(0, t, 0), where[t]);
            }
            RoundCoracles z = e.by("sides 2;goes 0;reach 0 1;judge 0 0 0;", 20);
            e.due("all sides", z.judge(0, 2), 3);
            e.due("not by a rule", z.judge(0, 0), 0);
            RoundCoracles w = e.by("sides 8;reach 0 1;judge 0 0 0;");
            e.due("seven of eight", w.then(0, 7, 0), 0);
            e.due("eight", w.then(0, 8, 0), LANDED);
        });
        e.edge("behind the last one one has LANDED.", () -> {
            RoundCoracles x = e.by(POOLS + "judge 0 0 0;", 1);
            int[][] fromFlowTo = {{8, 0, 8}, {8, 1, LANDED}, {8, 3, LANDED}, {7, 1, 8}, {7, 2, LANDED},
                {6, 2, 8}, {6, 3, LANDED}, {5, 3, 8}};
            for (int[] row : fromFlowTo) {
                x.carry(0, row[0]);
                x.dredge(row[0], row[1], 0);
                e.due("from " + row[0] + " by " + row[1], x.then(0, 1, 0), row[2]);
            }
            e.due("of one reach", e.by("reach 1 0;judge 0 0 0;").then(0, 1, 0), LANDED);
        });
        e.edge("The STEP is one more then.", () -> {
            RoundCoracles x = e.by("turns step;reach 0 0;judge 0 0 0;");
            e.due("at first", x.count(3), 0);
            e.due("steps", x.steps(1), 1);
            e.due("then", x.count(3), 1);
            e.due("by the rule", x.turned(0, 1), 1);
            e.due("without judges", new RoundCoracles().steps(7), 7);
        });
        e.edge("One is FAIR who has SEEN all SIDES, LANDED or not.", () -> {
            RoundCoracles x = e.by("sides 8;goes 0;reach 0 1;judge 0 0 0;judge 0 0 1;", 8);
            e.due("eight, and seven", x.count(4), 1);
            x.call(0);
            e.due("landed", x.judge(0, 0), LANDED);
            e.due("fair", x.count(4), 1);
            x.call(1);
            x.steps(3);
            e.due("landed ahead of the whole", x.count(4), 1);
        });
    }

    private void acts() {
        e.edge("ACTS (at most 40 are kept, the latest ones):", () -> {
            RoundCoracles x = e.by("sides 8;reach 0 0;judge 0 0 0;");
            for (int i = 1; i <= 40; i++) {
                x.paddle(0, i % 8);
                e.due("kept", x.count(9), i);
            }
            x.paddle(0, 1);
            e.due("41", x.count(9), 40);
            x.steps(20);
            e.due("42", x.count(9), 40);
            for (int i = 39; i >= 0; i--) {
                e.due("undo", x.undo(), i);
                e.due("faces", x.judge(0, 1), (i + 2) % 8);
                e.due("the step", x.count(3), 0);
            }
            e.due("the first two stay", x.judge(0, 1), 2);
            e.due("none is left", x.undo(), NONE);
            e.due("as it was", x.judge(0, 1), 2);
        });
        e.edge("STEPS go by (1 to 20);", () -> {
            RoundCoracles x = e.by("turns 1;reach 0 0;judge 0 0 0;");
            e.refused(x, 1, "0", () -> x.steps(0));
            e.due("1", x.steps(1), 1);
            e.due("20", x.steps(20), 21);
            e.refused(x, 1, "21", () -> x.steps(21));
            e.due("one act each", x.count(9), 2);
        });
        e.edge("one on a REACH is CALLED from the bank: one goes on by 1 REACH, at once;", () -> {
            RoundCoracles x = e.by("reach 0 5;reach 3 5;reach 0 5;judge 1 0 0;judge 1 0 0;", 1);
            e.due("from a pool", x.call(0), 1);
            e.due("from a flow of 3", x.call(0), 2);
            e.due("from the last one", x.call(0), LANDED);
            e.due("no step", x.count(3), 1);
            e.due("nothing is seen", x.judge(0, 2), 2);
            e.due("no turn", x.judge(0, 1), 2);
            e.due("nobody else", x.judge(1, 0), 0);
        });
        e.edge("one who isn't LANDED PADDLES: one FACES another SIDE;", () -> {
            RoundCoracles x = e.by("reach 0 0;judge 1 0 1;");
            e.due("ashore", x.paddle(0, 3), 1);
            e.due("faces", x.judge(0, 1), 3);
            x.steps(2);
            e.due("on a reach", x.paddle(0, 0), 3);
            e.due("faces", x.judge(0, 1), 0);
            e.due("sees it in a step", x.judge(0, 2), 8);
            x.call(0);
            e.refused(x, 1, "landed", () -> x.paddle(0, 1));
        });
        e.edge("one is CARRIED UP: one on a REACH, or LANDED, is on another REACH, with what one has SEEN"
                + " and the SIDE one FACES;", () -> {
            RoundCoracles x = e.by("reach 2 1;reach 0 0;reach 0 1;judge 2 0 0;judge 0 0 9;", 1);
            e.due("on a reach", x.carry(0, 0), 2);
            e.due("on another", x.judge(0, 0), 0);
            e.due("seen", x.judge(0, 2), 4);
            e.due("faces", x.judge(0, 1), 3);
            e.due("down, too", x.carry(0, 2), 0);
            x.call(0);
            e.due("landed", x.carry(0, 2), LANDED);
            e.due("seen", x.judge(0, 2), 4);
            e.due("faces", x.judge(0, 1), 3);
            e.refused(x, 1, "ashore", () -> x.carry(1, 0));
        });
        e.edge("a REACH is DREDGED: it has a FLOW (0 to 3) and a SPIN (0 to 7), also those that it has.",
                () -> {
            RoundCoracles x = e.by("reach 1 2;reach 3 7;judge 0 0 0;");
            e.due("to the most", x.dredge(0, 3, 7), 12);
            e.due("to the least", x.dredge(0, 0, 0), 37);
            e.due("those that it has", x.dredge(0, 0, 0), 0);
            e.due("an act, too", x.count(9), 3);
            e.due("a pool now", x.count(7), 1);
            e.due("the other one is as it was", 10 * x.reach(1, 0) + x.reach(1, 1), 37);
            x.dredge(0, 2, 3);
            e.due("one turns by it", x.then(0, 1, 1), 3);
            e.due("one goes by it", x.then(0, 1, 0), LANDED);
        });
        e.edge("They are UNDONE, the last one first.", () -> {
            RoundCoracles x = e.by("reach 0 1;reach 0 1;judge 0 0 0;judge 0 0 2;");
            String[] shots = new String[6];
            shots[0] = Edges.shot(x);
            x.steps(3);
            shots[1] = Edges.shot(x);
            x.call(0);
            shots[2] = Edges.shot(x);
            x.paddle(1, 0);
            shots[3] = Edges.shot(x);
            x.carry(1, 1);
            shots[4] = Edges.shot(x);
            x.dredge(1, 2, 3);
            for (int i = 4; i >= 0; i--) {
                e.due("undo", x.undo(), i);
                e.same("undo", Edges.shot(x), shots[i]);
            }
            undoneInFull();
        });
    }

    /** With as many reaches and judges as can be, of which the last ones are changed. */
    private void undoneInFull() {
        RoundCoracles x = e.by("sides 8;turns lean;goes 1;" + "reach 3 7;".repeat(9)
                + "judge 7 9 0;".repeat(8), 5);
        String before = Edges.shot(x).replace("9:1", "9:2");
        x.dredge(8, 3, 7);
        x.dredge(8, 0, 0);
        x.paddle(7, 1);
        x.call(7);
        x.carry(7, 8);
        x.steps(20);
        for (int i = 0; i < 5; i++) {
            x.undo();
        }
        e.same("undo in full", Edges.shot(x), before);
    }

    private void status() {
        e.edge("STATUS: how many calls were refused: 0 TEXTS with a FAULT, 1 ACTS, 2 SIGHTINGS.", () -> {
            RoundCoracles x = e.by("reach 0 0;judge 0 0 3;");
            Edges.tell(x, "x");
            Edges.tell(x, "sides 1;");
            e.due("texts", x.count(12), 2);
            e.iae(x, "not a text", () -> x.gorge(1));
            for (int i = 0; i < 36; i++) {
                x.feed(0, 0, 0, 0, 0);
            }
            e.due("a full tape is no text", x.count(12), 2);
            e.refused(x, 1, "steps", () -> x.steps(0));
            e.refused(x, 1, "call", () -> x.call(0));
            e.refused(x, 1, "paddle", () -> x.paddle(0, 0));
            e.refused(x, 1, "carry", () -> x.carry(0, 0));
            e.refused(x, 1, "dredge", () -> x.dredge(0, 4, 0));
            e.refused(x, 2, "see", () -> x.see(0, 21, 0));
            e.asks(x, "undo of none", x::undo, NONE);
            e.due("acts", x.count(13), 5);
            e.due("sightings", x.count(14), 1);
            x.steps(1);
            x.undo();
            e.due("isn't undone", x.count(13), 5);
        });
        e.edge("AN IMAGE keeps all that STEPS and ACTS change, ACTS that are kept, SIGHTINGS, STATUS.", () -> {
            RoundCoracles x = e.by("sides 2;reach 0 1;reach 0 0;judge 0 0 0;judge 1 0 1;", 2);
            x.call(0);
            x.see(0, 0, 0);
            x.see(0, 0, 9);
            x.steps(0);
            Edges.tell(x, "x");
            String kept = Edges.shot(x);
            x.image();
            x.steps(9);
            x.carry(0, 0);
            x.paddle(0, 1 - x.judge(0, 1));
            x.dredge(0, 3, 3);
            x.dredge(1, 3, 3);
            x.see(1, 0, 0);
            x.see(0, 0, 9);
            x.steps(0);
            Edges.tell(x, "y");
            e.due("restore", x.restore(), true);
            e.same("restore", Edges.shot(x), kept);
            e.due("the sighting", x.leans(2), 1);
            x.forget();
            e.due("undo", x.undo(), 1);
            e.due("undo", x.undo(), 0);
            e.due("undo", x.undo(), NONE);
            e.due("ashore", x.judge(0, 0), NONE);
            e.due("restore", x.restore(), true);
            e.same("restore again", Edges.shot(x), kept);
            x.forget();
            x.see(1, 3, 1);
            e.due("restore", x.restore(), true);
            e.due("its own sighting", x.leans(2), 1);
            keptActs();
            keptSightings();
        });
    }

    /** The acts of an image are as many as can be, and stay though others come in their place. */
    private void keptActs() {
        RoundCoracles x = e.by("sides 8;reach 0 0;judge 0 0 0;");
        for (int i = 1; i <= 45; i++) {
            x.paddle(0, i % 8);
        }
        x.image();
        for (int i = 1; i <= 15; i++) {
            x.dredge(0, 0, i % 8);
        }
        for (int again = 0; again < 2; again++) {
            e.due("restore", x.restore(), true);
            for (int i = 39; i >= 0; i--) {
                e.due("undo", x.undo(), i);
                e.due("faces", x.judge(0, 1), (i + 5) % 8);
                e.due("spin", x.reach(0, 1), 0);
            }
            e.due("none is left", x.undo(), NONE);
            for (int i = 1; i <= 30; i++) {
                x.dredge(0, 0, i % 8);
            }
        }
    }

    /** By each of its three parts a sighting of the image is another one than those in its place. */
    private void keptSightings() {
        int[][] others = {{1, 1, 1}, {0, 2, 1}, {0, 1, 2}};
        for (int[] other : others) {
            RoundCoracles x = e.by("goes 0;turns 1;reach 0 0;judge 0 0 0;judge 3 0 0;");
            x.see(0, 1, 1);
            x.image();
            x.forget();
            x.see(other[0], other[1], other[2]);
            e.due("not so", x.leans(2), 0);
            x.restore();
            e.due("so", x.leans(2), 1);
        }
    }

    private void count() {
        e.edge("0 SIDES, 1 REACHES, 2 JUDGES, 3 the STEP, 4 FAIR ones, 5 LANDED ones, 6 who is on a REACH, 7"
                + " POOLS, 8 BENCH (bits; NONE), 9 ACTS that are kept, 10 SIGHTINGS, 11 bytes of the tape, 12"
                + " to 14 STATUS 0 to 2.", () -> {
            // 0 has seen both and stays on the pool behind; 1 has landed; 2 is ashore.
            RoundCoracles x = e.by("sides 2;goes lean;reach 1 1;reach 0 0;reach 0 0;"
                    + "judge 0 0 0;judge 0 3 1;judge 0 0 9;", 2);
            x.see(0, 1, 1);
            Edges.tell(x, "x");
            Edges.tell(x, "x");
            x.steps(0);
            x.see(0, 99, 1);
            x.see(0, 99, 1);
            x.see(0, 99, 1);
            Edges.feed(x, " ");
            int[] want = {2, 3, 3, 2, 1, 2, 1, 6, 1, 1, 1, 20, 2, 1, 3};
            for (int what = 0; what <= 14; what++) {
                int asked = what;
                e.asks(x, "count " + what, () -> x.count(asked), want[what]);
            }
            e.due("no bench", e.by("sides 3;reach 0 0;judge 0 0 0;judge 1 0 0;", 9).count(8), NONE);
            e.due("all are there", e.by(POOLS + "judge 0 0 0;".repeat(8), 1).count(6), 255);
            e.due("all are pools", e.by(POOLS).count(7), 511);
            e.due("all have landed", e.by("judge 0 0 0;".repeat(8), 1).count(5), 255);
            e.due("all are fair", e.by("sides 2;reach 0 1;" + "judge 0 0 0;".repeat(8), 2).count(4), 255);
        });
        e.edge("NoSuchElementException: another what.", () -> {
            RoundCoracles x = e.by("reach 0 0;judge 0 0 0;", 1);
            for (int what : new int[] {-1, 15, 16, Integer.MIN_VALUE, Integer.MAX_VALUE}) {
                e.nse(x, "count " + what, () -> x.count(what));
            }
        });
    }

    private void reach() {
        e.edge("Of a REACH: 0 FLOW, 1 SPIN, 2 who is on it (bits).", () -> {
            RoundCoracles x = e.by("reach 0 7;" + POOLS.substring(20) + "reach 3 4;"
                    + "judge 0 0 0;".repeat(7) + "judge 0 0 9;", 1);
            x.carry(5, 8);
            e.asks(x, "flow", () -> x.reach(8, 0), 3);
            e.asks(x, "spin", () -> x.reach(8, 1), 4);
            e.asks(x, "who", () -> x.reach(8, 2), 32);
            e.asks(x, "who", () -> x.reach(0, 2), 95);
            e.asks(x, "nobody", () -> x.reach(1, 2), 0);
            x.dredge(8, 1, 6);
            e.due("flow now", x.reach(8, 0), 1);
            e.due("spin now", x.reach(8, 1), 6);
        });
        e.edge("NoSuchElementException: no such REACH (as everywhere), what.", () -> {
            RoundCoracles none = e.by("judge 0 0 0;");
            RoundCoracles one = e.by("reach 0 0;judge 0 0 0;", 1);
            RoundCoracles nine = e.by(POOLS + "judge 0 0 0;", 1);
            for (int bad : new int[] {-1, -2, 1, 9, Integer.MIN_VALUE, Integer.MAX_VALUE}) {
                noReach(one, bad);
            }
            noReach(none, 0);
            noReach(nine, 9);
            e.asks(nine, "the ninth", () -> nine.reach(8, 0), 0);
            for (int what : new int[] {-1, 3, Integer.MIN_VALUE, Integer.MAX_VALUE}) {
                e.nse(one, "what " + what, () -> one.reach(0, what));
            }
        });
    }

    private void noReach(RoundCoracles x, int bad) {
        e.nse(x, "reach " + bad, () -> x.reach(bad, 0));
        e.nse(x, "carry to " + bad, () -> x.carry(0, bad));
        e.nse(x, "dredge " + bad, () -> x.dredge(bad, 0, 0));
        e.nse(x, "toSpin " + bad, () -> x.toSpin(bad, 1, 0));
    }

    private void judge() {
        e.edge("Of a JUDGE: 0 where one is (NONE: ASHORE above, -2: LANDED), 1 the SIDE one FACES, 2 what one"
                + " has SEEN (bits), 3 LEAN, 4 when one is LET GO, 5 whether a bigot (1).", () -> {
            RoundCoracles x = e.by("sides 8;turns 1;goes lean=9;reach 0 0;"
                    + "judge 7 9 0;bigot 5 8 20;judge 6 0 1;", 3);
            int[][] want = {{LANDED, 0, 128, 9, 0, 0}, {NONE, 5, 0, 8, 20, 1}, {0, 0, 192, 0, 1, 0}};
            for (int j = 0; j < 3; j++) {
                for (int what = 0; what <= 5; what++) {
                    int who = j;
                    int asked = what;
                    e.asks(x, j + " " + what, () -> x.judge(who, asked), want[j][what]);
                }
            }
        });
        e.edge("NoSuchElementException: no such JUDGE (as everywhere), what.", () -> {
            RoundCoracles none = e.by("reach 0 0;");
            RoundCoracles one = e.by("reach 0 0;judge 0 0 0;", 1);
            RoundCoracles eight = e.by("reach 0 0;" + "judge 0 0 0;".repeat(8), 1);
            for (int bad : new int[] {-1, -2, 1, 8, Integer.MIN_VALUE, Integer.MAX_VALUE}) {
                noJudge(one, bad);
                noOther(one, bad);
            }
            noJudge(none, 0);
            noJudge(eight, 8);
            noOther(eight, 8);
            e.asks(eight, "the eighth", () -> eight.judge(7, 0), 0);
            for (int what : new int[] {-1, 6, Integer.MIN_VALUE, Integer.MAX_VALUE}) {
                e.nse(one, "what " + what, () -> one.judge(0, what));
            }
        });
    }

    private void noJudge(RoundCoracles x, int bad) {
        e.nse(x, "judge", () -> x.judge(bad, 0));
        e.nse(x, "call", () -> x.call(bad));
        e.nse(x, "paddle", () -> x.paddle(bad, 1));
        e.nse(x, "carry", () -> x.carry(bad, 0));
        e.nse(x, "then", () -> x.then(bad, 1, 0));
        e.nse(x, "when", () -> x.when(bad, 0));
        e.nse(x, "beside", () -> x.beside(bad, bad));
        e.nse(x, "last", () -> x.last(bad));
        e.nse(x, "still", () -> x.still(bad, 1, 0));
        e.nse(x, "turned", () -> x.turned(bad, 1));
        e.nse(x, "stay", () -> x.stay(bad));
        e.nse(x, "toSet", () -> x.toSet(bad, 0));
        e.nse(x, "toCall", () -> x.toCall(bad));
        e.nse(x, "unlike", () -> x.unlike(bad, bad));
        e.nse(x, "agree", () -> x.agree(bad, bad, 1));
        e.nse(x, "see", () -> x.see(bad, 0, 0));
        e.nse(x, "floods", () -> x.floods(bad, 1, 1));
        e.nse(x, "game", () -> x.game(bad, bad, 0));
    }

    private void noOther(RoundCoracles x, int bad) {
        e.nse(x, "beside, other", () -> x.beside(0, bad));
        e.nse(x, "beside, one", () -> x.beside(bad, 0));
        e.nse(x, "unlike, other", () -> x.unlike(0, bad));
        e.nse(x, "unlike, one", () -> x.unlike(bad, 0));
        e.nse(x, "agree, other", () -> x.agree(0, bad, 1));
        e.nse(x, "agree, one", () -> x.agree(bad, 0, 1));
        e.nse(x, "game, other", () -> x.game(0, bad, 0));
        e.nse(x, "game, one", () -> x.game(bad, 0, 0));
    }

    private void steps() {
        e.edge("STEPS go by: the STEP.", () -> {
            RoundCoracles x = e.by("reach 0 1;judge 0 0 0;");
            e.due("3", x.steps(3), 3);
            e.due("seen", x.judge(0, 2), 7);
            e.due("faces", x.judge(0, 1), 3);
            e.due("2 more", x.steps(2), 5);
            e.due("landed", x.judge(0, 0), LANDED);
            e.due("without all", new RoundCoracles().steps(20), 20);
        });
        e.edge("NONE (STATUS 1): not 1 to 20, it would be above 999.", () -> {
            RoundCoracles x = e.by("reach 0 0;judge 0 0 0;");
            for (int bad : new int[] {0, -1, 21, Integer.MIN_VALUE, Integer.MAX_VALUE}) {
                e.refused(x, 1, "steps " + bad, () -> x.steps(bad));
            }
            e.due("20", x.steps(20), 20);
            for (int i = 2; i <= 49; i++) {
                x.steps(20);
            }
            e.due("980", x.count(3), 980);
            e.refused(x, 1, "1000", () -> x.steps(20));
            e.due("998", x.steps(18), 998);
            e.refused(x, 1, "1000", () -> x.steps(2));
            e.due("999", x.steps(1), 999);
            e.refused(x, 1, "1000", () -> x.steps(1));
            e.asks(x, "one can look ahead still", () -> x.then(0, 60, 0), 0);
            e.due("undone", x.undo(), 39);
            e.due("999 again", x.steps(1), 999);
        });
    }

    private void call() {
        e.edge("CALLED: where one is then (-2: LANDED).", () -> {
            RoundCoracles x = e.by(POOLS + "judge 0 0 0;", 1);
            for (int r = 1; r <= 8; r++) {
                e.due("on " + r, x.call(0), r);
                e.due("where", x.judge(0, 0), r);
            }
            e.due("landed", x.call(0), LANDED);
            e.due("where", x.judge(0, 0), LANDED);
            e.due("acts", x.count(9), 10);
        });
        e.edge("NONE (STATUS 1): one isn't on a REACH.", () -> {
            RoundCoracles x = e.by("reach 0 0;judge 0 0 1;");
            e.refused(x, 1, "ashore", () -> x.call(0));
            x.steps(2);
            x.call(0);
            e.refused(x, 1, "landed", () -> x.call(0));
            RoundCoracles y = e.by("judge 0 0 0;");
            e.refused(y, 1, "no reaches, ashore", () -> y.call(0));
            y.steps(1);
            e.refused(y, 1, "no reaches, landed", () -> y.call(0));
        });
    }

    private void paddle() {
        e.edge("PADDLES: the SIDE one FACED.", () -> {
            RoundCoracles x = e.by("sides 8;reach 0 0;judge 0 0 0;");
            e.due("0", x.paddle(0, 7), 0);
            e.due("7", x.paddle(0, 3), 7);
            e.due("faces", x.judge(0, 1), 3);
            e.due("acts", x.count(9), 2);
        });
        e.edge("NONE (STATUS 1): LANDED, one FACES it.", () -> {
            RoundCoracles x = e.by("reach 0 0;judge 2 0 0;");
            e.refused(x, 1, "faces it, ashore", () -> x.paddle(0, 2));
            x.steps(1);
            e.refused(x, 1, "faces it, on a reach", () -> x.paddle(0, 2));
            x.call(0);
            e.refused(x, 1, "landed", () -> x.paddle(0, 1));
            e.refused(x, 1, "landed, faces it", () -> x.paddle(0, 2));
            x.carry(0, 0);
            e.due("carried up", x.paddle(0, 1), 2);
        });
        e.edge("NoSuchElementException (ahead): no such JUDGE, SIDE.", () -> {
            RoundCoracles x = e.by("sides 2;judge 0 0 0;", 1);
            for (int bad : new int[] {-1, 2, 4, 8, Integer.MIN_VALUE, Integer.MAX_VALUE}) {
                e.nse(x, "side " + bad + ", landed", () -> x.paddle(0, bad));
                e.nse(x, "judge " + (bad == 2 ? 1 : bad), () -> x.paddle(bad == 2 ? 1 : bad, 0));
            }
            e.refused(x, 1, "the last side, landed", () -> x.paddle(0, 1));
        });
    }

    private void carry() {
        e.edge("CARRIED UP: where one was (-2: LANDED).", () -> {
            RoundCoracles x = e.by(POOLS + "judge 0 0 0;", 1);
            e.due("0", x.carry(0, 8), 0);
            e.due("8", x.carry(0, 7), 8);
            e.due("where", x.judge(0, 0), 7);
            x.call(0);
            x.call(0);
            e.due("landed", x.carry(0, 0), LANDED);
            e.due("where", x.judge(0, 0), 0);
        });
        e.edge("NONE (STATUS 1): one is ASHORE, is there.", () -> {
            RoundCoracles x = e.by("reach 0 0;reach 0 0;judge 0 0 1;");
            e.refused(x, 1, "ashore", () -> x.carry(0, 0));
            x.steps(2);
            e.refused(x, 1, "there", () -> x.carry(0, 0));
            x.carry(0, 1);
            e.refused(x, 1, "there", () -> x.carry(0, 1));
        });
        e.edge("NoSuchElementException (ahead): no such JUDGE, REACH.", () -> {
            RoundCoracles x = e.by("reach 0 0;judge 0 0 1;");
            e.nse(x, "reach 1, ashore", () -> x.carry(0, 1));
            e.nse(x, "reach -1, ashore", () -> x.carry(0, -1));
            e.nse(x, "reach -2, ashore", () -> x.carry(0, -2));
            e.nse(x, "judge 1", () -> x.carry(1, 0));
            RoundCoracles y = e.by("judge 0 0 0;", 1);
            e.nse(y, "no reaches, landed", () -> y.carry(0, 0));
        });
    }

    private void dredge() {
        e.edge("DREDGED: 10 by FLOW, and SPIN, as they were.", () -> {
            RoundCoracles x = e.by("reach 1 2;reach 0 5;");
            e.due("12", x.dredge(0, 3, 7), 12);
            e.due("37", x.dredge(0, 0, 0), 37);
            e.due("0", x.dredge(0, 1, 2), 0);
            e.due("the other one", x.dredge(1, 0, 5), 5);
        });
        e.edge("NONE (STATUS 1): not 0 to 3, 0 to 7.", () -> {
            RoundCoracles x = e.by("reach 1 2;");
            int[][] bad = {{-1, 0}, {4, 0}, {0, -1}, {0, 8}, {4, 8}, {-1, -1}, {7, 3},
                {Integer.MIN_VALUE, 0}, {Integer.MAX_VALUE, 0}, {0, Integer.MIN_VALUE},
                {0, Integer.MAX_VALUE}};
            for (int[] row : bad) {
                e.refused(x, 1, row[0] + " " + row[1], () -> x.dredge(0, row[0], row[1]));
            }
            e.nse(x, "no such reach ahead", () -> x.dredge(1, 4, 8));
            e.due("3 7", x.dredge(0, 3, 7), 12);
        });
    }

    private void undo() {
        e.edge("The last ACT is UNDONE: how many are left.", () -> {
            RoundCoracles x = e.by("reach 0 0;judge 0 0 0;");
            x.steps(1);
            x.paddle(0, 3);
            x.paddle(0, 2);
            e.due("2", x.undo(), 2);
            e.due("faces", x.judge(0, 1), 3);
            x.paddle(0, 1);
            e.due("2", x.undo(), 2);
            e.due("faces", x.judge(0, 1), 3);
            e.due("1", x.undo(), 1);
            e.due("faces", x.judge(0, 1), 0);
            x.steps(0);
            e.due("0, a refused act is none", x.undo(), 0);
            e.due("the step", x.count(3), 0);
        });
        e.edge("NONE: there is none.", () -> {
            RoundCoracles x = e.by("reach 0 0;judge 0 0 0;");
            e.asks(x, "none yet", x::undo, NONE);
            x.steps(0);
            e.asks(x, "a refused one", x::undo, NONE);
            x.steps(1);
            x.undo();
            e.asks(x, "none more", x::undo, NONE);
        });
    }

    private void image() {
        e.edge("AN IMAGE is kept, in place of another one.", () -> {
            RoundCoracles x = e.by("reach 0 0;judge 0 0 0;");
            String before = Edges.shot(x);
            x.image();
            e.same("image", Edges.shot(x), before);
            x.steps(1);
            x.image();
            x.steps(1);
            e.due("restore", x.restore(), true);
            e.due("the later one", x.count(3), 1);
        });
    }

    private void restore() {
        e.edge("It is as the IMAGE again: true.", () -> {
            RoundCoracles x = e.by("reach 0 0;judge 0 0 0;", 2);
            x.image();
            String kept = Edges.shot(x);
            for (int again = 0; again < 3; again++) {
                x.paddle(0, 1 + again);
                x.steps(5);
                e.due("restore", x.restore(), true);
                e.same("restore", Edges.shot(x), kept);
            }
            x.undo();
            e.due("of more acts than now", x.restore(), true);
            e.same("restore", Edges.shot(x), kept);
            Edges.tell(x, "?");
            Edges.feed(x, "reach 1 1;");
            e.due("restore", x.restore(), true);
            e.due("the tape isn't kept", x.count(11), 20);
            e.due("the fault isn't kept", x.fault(), 0);
        });
        e.edge("False: there is none.", () -> {
            RoundCoracles x = e.by("reach 0 0;judge 0 0 0;", 2);
            e.asks(x, "none yet", () -> x.restore() ? 1 : 0, 0);
            x.image();
            Edges.tell(x, "reach 0 0;");
            e.asks(x, "none more", () -> x.restore() ? 1 : 0, 0);
        });
    }
}
