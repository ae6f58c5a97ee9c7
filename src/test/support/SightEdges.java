/** The edges of sightings and of chance: chapter 4 of the terms, promises 32 to 38. */
final class SightEdges {
    private static final int NONE = Edges.NONE;
    private static final int LANDED = Edges.LANDED;
    private static final int[] FAR = {Integer.MIN_VALUE, Integer.MAX_VALUE};

    private final Edges e;

    SightEdges(Edges edges) {
        e = edges;
    }

    void all() {
        e.chapter(Edges.TERMS);
        sightings();
        watching();
        floodTerms();
        gameTerms();
        yearTerms();
        Runnable[] promises = {this::see, this::leans, this::watch, this::forget, this::floods, this::game,
            this::years};
        for (int i = 0; i < promises.length; i++) {
            e.chapter(32 + i);
            promises[i].run();
        }
    }

    private void sightings() {
        e.edge("SIGHTINGS (at most 8): the SIDE that one FACED behind so many STEPS (0 to 20).", () -> {
            RoundCoracles x = e.by("turns step=19;goes 0;reach 0 0;judge 0 0 0;judge 3 0 20;");
            int[][] seen = {{0, 0, 0}, {0, 19, 0}, {0, 20, 1}, {1, 0, 3}, {1, 20, 3}, {0, 0, 0}, {0, 1, 0},
                {0, 0, 0}};
            for (int i = 0; i < seen.length; i++) {
                e.due("sighting", x.see(seen[i][0], seen[i][1], seen[i][2]), i + 1);
                e.due("it is so", x.leans(2), 1);
            }
            e.refused(x, 2, "the ninth", () -> x.see(0, 0, 0));
            int[][] wrong = {{0, 0, 1}, {0, 19, 1}, {0, 20, 0}, {1, 20, 2}};
            for (int[] row : wrong) {
                x.forget();
                e.due("sighting", x.see(row[0], row[1], row[2]), 1);
                e.due("it isn't so", x.leans(2), 0);
            }
            x.forget();
            e.refused(x, 2, "21", () -> x.see(0, 21, 0));
            e.refused(x, 2, "-1", () -> x.see(0, -1, 0));
            x.steps(1);
            x.call(0);
            x.see(0, 20, 0);
            e.due("landed, one faces it still", x.leans(2), 1);
        });
        e.edge("LEANS: JUDGES and LEANS (0 to 9, another one than one has) by one of which from now on all"
                + " SIGHTINGS would be so: how many; the first (10 by who, and LEAN); whether it is so without"
                + " (1).", () -> {
            leansAre(e.by("reach 0 0;"), 0, NONE, 1);
            leansAre(e.by("reach 0 0;judge 0 0 0;"), 9, 1, 1);
            leansAre(e.by("reach 0 0;judge 0 1 0;"), 9, 0, 1);
            leansAre(e.by("reach 0 0;" + "judge 0 9 0;".repeat(8)), 72, 0, 1);
            leansAre(sees("turns lean=9;goes 0;reach 0 0;judge 0 0 0;", 0, 1, 1), 1, 9, 0);
            leansAre(sees("turns lean=0;goes 0;reach 0 0;judge 0 9 0;", 0, 1, 1), 1, 0, 0);
            leansAre(sees("turns lean=9;goes 0;reach 0 0;" + "judge 0 0 0;".repeat(8), 7, 1, 1), 1, 79, 0);
            // One has it already: so it is without, and by no other lean.
            leansAre(sees("turns lean=9;goes 0;reach 0 0;judge 0 9 0;", 0, 1, 1), 0, NONE, 1);
            RoundCoracles x = sees("turns lean=9;goes 0;reach 0 0;judge 0 0 0;judge 0 0 0;", 0, 1, 1);
            x.see(1, 1, 1);
            leansAre(x, 0, NONE, 0);
            RoundCoracles y = sees("turns lean=9;goes 0;reach 0 0;judge 0 0 0;", 0, 1, 1);
            y.see(0, 1, 0);
            leansAre(y, 0, NONE, 0);
            // From now on: what was faced ahead of it stays, and so many steps are counted from now.
            RoundCoracles z = sees("turns lean=9;goes 0;reach 0 0;judge 0 0 0;", 0, 2, 2);
            leansAre(z, 1, 9, 0);
            z.steps(1);
            leansAre(z, 1, 9, 0);
            z.paddle(0, 2);
            leansAre(z, 8, 1, 1);
            // One goes on to where one is alone, by lean 1; or the other one goes, by 1 to 9.
            leansAre(sees("turns here=0;goes lean;reach 0 0;reach 0 0;judge 0 0 0;judge 0 0 0;", 0, 2, 1), 10, 1,
                    0);
            // By the flow one comes to a reach that turns one, but by a lean of 2 and more.
            leansAre(sees("reach 1 0;reach 0 2;reach 0 0;judge 0 0 0;", 0, 2, 2), 0, NONE, 1);
            leansAre(sees("reach 1 0;reach 0 2;reach 0 0;judge 0 0 0;", 0, 2, 0), 8, 2, 0);
        });
    }

    private RoundCoracles sees(String text, int judge, int steps, int side) {
        RoundCoracles x = e.by(text);
        e.due("a sighting", x.see(judge, steps, side), 1);
        return x;
    }

    private void leansAre(RoundCoracles x, int many, int first, int without) {
        e.asks(x, "how many leans", () -> x.leans(0), many);
        e.asks(x, "the first lean", () -> x.leans(1), first);
        e.asks(x, "whether without", () -> x.leans(2), without);
    }

    private void watching() {
        e.edge("WATCH NEXT: who is at most unlike places behind 6 STEPS by these (ASHORE, LANDED are places,"
                + " too; of like ones the least): how many; none without any.", () -> {
            String reaches = ";reach 0 0;reach 0 0;reach 0 0;";
            // By lean 1 on 1, by 2 on 2, by 3 to 9 landed.
            watchIs(e.by("goes lean*(step=5)" + reaches + "judge 0 0 0;"), 0, 3);
            watchIs(e.by("goes lean*(step=6)" + reaches + "judge 0 0 0;"), 0, 1);
            RoundCoracles x = e.by("goes lean*(step=6)" + reaches + "judge 0 0 0;", 1);
            watchIs(x, 0, 3);
            // The second one is also on 0, by the first one's leans; its own 0, 1, 2 .. are more.
            watchIs(e.by("goes lean*(step=5)" + reaches + "judge 0 0 9;judge 0 1 0;"), 1, 4);
            watchIs(e.by("goes lean*(step=5)" + reaches + "judge 0 0 0;judge 0 0 0;"), 0, 4);
            watchIs(e.by("reach 0 0;judge 0 0 20;judge 0 0 0;"), 0, 1);
            watchIs(e.by("judge 0 0 0;"), 0, 1);
            watchIs(e.by("reach 0 0;"), NONE, 0);
            // By the sightings lean 1 and 2 alone are left, then none.
            RoundCoracles y = e.by("turns lean<3;goes lean*(step=5)" + reaches + "judge 0 9 0;");
            watchIs(y, 0, 4);
            y.see(0, 1, 1);
            watchIs(y, 0, 3);
            y.see(0, 1, 0);
            watchIs(y, NONE, 0);
            y.forget();
            watchIs(y, 0, 4);
            // Sightings are of steps that the six are not counted from.
            RoundCoracles z = sees("turns 1;goes lean*(step=6)" + reaches + "judge 0 0 0;", 0, 3, 3);
            watchIs(z, 0, 1);
            watchInFull();
        });
    }

    /** Of eight the last one alone is somewhere else, and by a lean of 9 alone. */
    private void watchInFull() {
        RoundCoracles x = e.by("goes 2*(lean=9);reach 0 0;reach 0 0;reach 0 0;" + "judge 0 9 20;".repeat(7)
                + "judge 0 0 0;");
        watchIs(x, 7, 2);
        leansAre(x, 72, 0, 1);
    }

    private void watchIs(RoundCoracles x, int who, int many) {
        e.asks(x, "whom to watch", () -> x.watch(0), who);
        e.asks(x, "how many places", () -> x.watch(1), many);
    }

    private void floodTerms() {
        e.edge("FLOODS: in each of so many STEPS (1 to 5) there is a FLOOD with so many tenths (0 to 10):",
                () -> {
            // One sees both sides if there is no flood in the first step.
            RoundCoracles x = e.by("sides 2;reach 0 1;judge 0 0 0;");
            e.asks(x, "never", () -> x.floods(0, 2, 0), 100);
            e.asks(x, "a tenth", () -> x.floods(0, 2, 1), 90);
            e.asks(x, "nine", () -> x.floods(0, 2, 9), 10);
            e.asks(x, "always", () -> x.floods(0, 2, 10), 0);
            e.asks(x, "too soon", () -> x.floods(0, 1, 0), 0);
            e.asks(x, "5", () -> x.floods(0, 5, 4), 60000);
            // In each: of four steps none has a flood.
            RoundCoracles y = e.by("sides 5;reach 0 1;judge 0 0 0;");
            e.asks(y, "4 of 5", () -> y.floods(0, 5, 3), 7 * 7 * 7 * 7 * 10);
            e.asks(y, "4", () -> y.floods(0, 4, 3), 0);
        });
        e.edge("FLOW of all REACHES, of POOLS, too, counts as 3 in it:", () -> {
            for (int flow = 0; flow <= 2; flow++) {
                // By 3 from the first reach one is on the fourth one, which alone turns to side 1.
                RoundCoracles x = e.by("sides 2;turns spin and seen=1;reach " + flow
                        + " 0;reach 0 0;reach 0 0;reach 0 1;judge 0 0 0;");
                e.asks(x, "flow " + flow, () -> x.floods(0, 3, 10), 0);
                e.asks(x, "flow " + flow, () -> x.floods(0, 2, 10), 0);
                // A flood in the first step, none in the second one.
                e.asks(x, "flow " + flow, () -> x.floods(0, 3, 4), 4 * 6 * 10);
            }
            RoundCoracles y = e.by("sides 2;turns spin;reach 3 0;reach 0 0;reach 0 0;reach 0 1;judge 0 0 0;");
            e.asks(y, "flow 3 has it anyhow", () -> y.floods(0, 3, 4), 6 * 100);
            RoundCoracles z = e.by("sides 2;goes flow=3;reach 1 1;judge 0 0 0;");
            e.asks(z, "in a rule", () -> z.floods(0, 2, 3), 70);
            RoundCoracles w = e.by("sides 2;goes 0;reach 1 1;judge 0 0 0;");
            e.asks(w, "not by a rule without it", () -> w.floods(0, 2, 10), 100);
        });
        e.edge("how likely one is FAIR behind them: as so many of 10 to the power of these STEPS.", () -> {
            RoundCoracles x = e.by("sides 2;reach 0 1;judge 0 0 0;judge 0 9 0;", 2);
            int power = 1;
            for (int steps = 1; steps <= 5; steps++) {
                int many = steps;
                power *= 10;
                for (int tenths = 0; tenths <= 10; tenths++) {
                    int with = tenths;
                    e.due("fair and landed", x.floods(0, many, with), power);
                    e.due("never", x.floods(1, many, with), 0);
                }
            }
            e.asks(x, "nothing changes", () -> x.floods(0, 5, 5), 100000);
        });
    }

    private void gameTerms() {
        e.edge("A GAME of two: each PADDLES now to the next SIDE (1 more, MOD how many), or not (1, 0; who is"
                + " LANDED doesn't, and loses nothing): each gains 2 for each SIDE that one has SEEN behind 5"
                + " STEPS and the other one hasn't, and loses 1, if one PADDLES.", () -> {
            // Who faces another side than the other one has 2, or 1 by paddling: 0 1 and 1 0 rest.
            gameIs(e.by("sides 3;reach 0 0;judge 0 0 0;judge 0 0 0;"), 2, 1);
            gameIs(e.by("sides 3;reach 0 0;judge 2 0 0;judge 2 0 0;"), 2, 1);
            gameIs(e.by("sides 2;reach 0 0;judge 1 0 0;judge 1 0 0;"), 2, 1);
            // Unlike already: 0 0; of two sides 1 1, too, as one alone would face the other one's.
            gameIs(e.by("sides 2;reach 0 0;judge 0 0 0;judge 1 0 0;"), 2, 0);
            gameIs(e.by("sides 4;reach 0 0;judge 3 0 0;judge 1 0 0;"), 1, 0);
            // The first one has landed and seen 0: the other one sees 1, in the fifth step from now.
            gameIs(landedFirst("judge 0 0 5;"), 1, 1);
            gameIs(landedFirst("judge 0 0 6;"), 1, 0);
            gameIs(landedFirst("judge 0 0 1;"), 1, 1);
            // What was seen ahead of it counts, too: the first one has seen 0 and turned to 1. By 0 0,
            // 0 1, 1 0, 1 1 it gains 2, 2, 1, 3, the other one 0, -1, 0, 1.
            gameIs(e.by("sides 3;turns step=0;goes 0;reach 0 0;judge 0 0 0;judge 0 0 1;", 1), 2, 0);
        });
        e.edge("A couple RESTS, if neither gains more by the other choice: how many; the first (10 by the first"
                + " one's, and the other one's) (who is LANDED now has 0 alone).", () -> {
            RoundCoracles x = landedFirst("judge 0 0 1;");
            e.asks(x, "the landed one first", () -> x.game(0, 1, 1), 1);
            e.asks(x, "the landed one behind", () -> x.game(1, 0, 1), 10);
            e.asks(x, "one couple", () -> x.game(1, 0, 0), 1);
            gameIs(e.by("judge 0 0 0;judge 1 0 0;", 1), 1, 0);
            // By paddling one sees two sides in place of one: 1 1 alone.
            gameIs(e.by("sides 8;turns faces=1 or faces=5;goes 0;reach 0 0;judge 0 0 0;judge 4 0 0;"), 1, 11);
            gameIs(e.by("sides 8;turns faces=1;goes 0;reach 0 0;judge 0 0 0;judge 4 0 0;"), 1, 10);
            gameIs(e.by("sides 8;turns faces=5;goes 0;reach 0 0;judge 0 0 0;judge 4 0 0;"), 1, 1);
            noRest();
        });
    }

    /** The first one has landed and seen side 0 of three; then a step has gone by. */
    private RoundCoracles landedFirst(String other) {
        RoundCoracles x = e.by("sides 3;reach 0 0;judge 0 0 0;" + other, 1);
        e.due("landed", x.call(0), LANDED);
        return x;
    }

    /**
     * By 0 0, 0 1, 1 0, 1 1 the first one gains 0, 0, 1, -1 and the other one 0, -1, 0, 1: who is
     * left alone on a reach goes on so far that one lands ahead of the third side.
     */
    private void noRest() {
        gameIs(e.by("sides 3;turns 1;goes faces-here;reach 0 0;reach 0 0;judge 2 0 0;judge 0 0 0;"), 0, NONE);
    }

    private void gameIs(RoundCoracles x, int many, int first) {
        e.asks(x, "how many couples", () -> x.game(0, 1, 0), many);
        e.asks(x, "the first couple", () -> x.game(0, 1, 1), first);
    }

    private void yearTerms() {
        e.edge("YEARS by a seed: n STEPS (0 to 60) from now on: ahead of each a DRAW of 6: 0 a DRAW of JUDGES is"
                + " CALLED, if on a REACH; 1 a DRAW of JUDGES PADDLES to a DRAW of SIDES, if not LANDED (both are"
                + " drawn); 2 a DRAW of REACHES has a SPIN that is a DRAW of 8:", () -> {
            // On the first of three reaches, of spin 1, 2, 4, and another one who is ashore.
            RoundCoracles x = e.by("goes 0;reach 0 1;reach 0 2;reach 0 4;judge 0 0 0;judge 0 0 20;", 1);
            e.asks(x, "no step", () -> x.years(seed(6, 0, 2, 0), 0, 2), 0);
            e.asks(x, "called", () -> x.years(seed(6, 0, 2, 0), 1, 2), 2);
            e.asks(x, "called ashore", () -> x.years(seed(6, 0, 2, 1), 1, 2), 1);
            e.asks(x, "called twice", () -> x.years(seed(6, 0, 2, 0, 6, 0, 2, 0), 2, 2), 2 + 4);
            e.asks(x, "ashore, then called", () -> x.years(seed(6, 0, 2, 1, 6, 0, 2, 0), 2, 2), 1 + 2);
            e.asks(x, "a spin of 7", () -> x.years(seed(6, 2, 3, 0, 8, 7), 1, 2), 7);
            e.asks(x, "a spin of 0", () -> x.years(seed(6, 2, 3, 0, 8, 0), 1, 2), 0);
            e.asks(x, "of the last reach", () -> x.years(seed(6, 2, 3, 2, 8, 7), 1, 2), 1);
            e.asks(x, "it stays so", () -> x.years(seed(6, 2, 3, 0, 8, 7, 6, 3), 2, 2), 14);
            for (int spin = 0; spin < 8; spin++) {
                int drawn = spin;
                e.asks(x, "two draws behind 2", () -> x.years(seed(6, 2, 3, 0, 8, drawn, 6, 0, 2, 0), 2, 2),
                        drawn + 2);
                e.asks(x, "one draw behind 0", () -> x.years(seed(6, 0, 2, 0, 6, 2, 3, 1, 8, drawn), 2, 2),
                        2 + drawn);
                e.asks(x, "two draws behind 1", () -> x.years(seed(6, 1, 2, 0, 4, 3, 6, 2, 3, 0, 8, drawn), 2, 2),
                        1 + drawn);
            }
            for (int nothing = 3; nothing <= 5; nothing++) {
                int kind = nothing;
                e.asks(x, "nothing", () -> x.years(seed(6, kind), 1, 2), 1);
                e.asks(x, "and no more draws", () -> x.years(seed(6, kind, 6, 2, 3, 0, 8, 5), 2, 2), 1 + 5);
            }
            paddlingYears();
            RoundCoracles y = e.by("turns step=59;goes 0;" + "reach 0 0;".repeat(9) + "judge 0 0 0;".repeat(8));
            e.asks(y, "59", () -> y.years(1, 59, 2), 0);
            e.due("60", y.years(1, 60, 2) > 0, true);
        });
        e.edge("how many LANDED in these STEPS (by a CALL, or LET GO where there are no REACHES, too); how many"
                + " are FAIR at the end; by how many SIDES all turned.", () -> {
            RoundCoracles x = e.by("reach 0 0;judge 0 0 0;judge 0 0 0;", 1);
            e.asks(x, "by a call", () -> x.years(seed(6, 0, 2, 1), 1, 0), 1);
            e.asks(x, "nobody", () -> x.years(seed(6, 5), 1, 0), 0);
            x.call(0);
            e.asks(x, "landed already", () -> x.years(seed(6, 0, 2, 0), 1, 0), 0);
            RoundCoracles y = e.by("judge 0 0 0;judge 0 0 1;judge 0 0 2;");
            e.asks(y, "let go", () -> y.years(seed(6, 5, 6, 5), 2, 0), 2);
            y.steps(1);
            e.asks(y, "let go from now on", () -> y.years(seed(6, 5, 6, 5), 2, 0), 2);
            RoundCoracles z = e.by("sides 2;turns 1;reach 0 0;judge 0 0 0;bigot 0 0 0;judge 0 0 0;judge 0 0 4;", 2);
            e.asks(z, "fair already", () -> z.years(seed(6, 5), 0, 1), 2);
            e.asks(z, "fair already", () -> z.years(seed(6, 5, 6, 5, 6, 5), 3, 1), 2);
            e.asks(z, "and one more", () -> z.years(seed(6, 5, 6, 5, 6, 5, 6, 5), 4, 1), 3);
            e.asks(z, "lands by the flow", () -> z.years(seed(6, 5, 6, 5, 6, 5, 6, 5), 4, 0), 1);
            RoundCoracles w = e.by("turns 30;goes 0;reach 0 0;judge 0 0 0;bigot 0 0 0;judge 0 0 20;", 1);
            e.asks(w, "all, more than once round", () -> w.years(seed(6, 5, 6, 5), 2, 2), 90);
        });
        e.edge("A seed becomes itself times 1103515245 and 12345 (an int that wraps); a DRAW of n is its bits 16"
                + " to 30 MOD n then.", () -> {
            // 0 becomes 12345: bits 16 to 30 are 0, 0 of 6. Then 12345 becomes 1406932606: 21468.
            RoundCoracles x = e.by("goes 0;reach 0 0;judge 0 0 0;", 1);
            e.asks(x, "a call lands one", () -> x.years(0, 1, 0), 1);
            // 1 becomes 1103527590: 16838 is 2 of 6; 2524885223: 5758 is 0 of 1; 662824084: 10113 is 1 of 8.
            e.asks(x, "a spin of 1", () -> x.years(1, 1, 2), 1);
            for (int seed : new int[] {-1, Integer.MIN_VALUE, Integer.MAX_VALUE, 7, -12345, 99}) {
                e.asks(x, "seed " + seed, () -> x.years(seed, 1, 2), turnedOnOne(seed));
            }
            seedsOfEachSign(x);
        });
        e.edge("(Without JUDGES nothing is drawn behind 0, 1, without REACHES nothing behind 2.)", () -> {
            RoundCoracles none = new RoundCoracles();
            RoundCoracles noJudges = e.by("reach 0 7;reach 1 1;");
            RoundCoracles noReaches = e.by("sides 2;judge 0 0 0;judge 1 0 20;");
            for (int s = -20; s < 20; s++) {
                for (int what = 0; what <= 2; what++) {
                    e.due("nothing at all", none.years(s, 60, what), 0);
                    e.due("no judges", noJudges.years(s, 60, what), 0);
                    e.due("no reaches", noReaches.years(s, 60, what), what == 0 ? 2 : 0);
                }
            }
        });
    }

    private void paddlingYears() {
        RoundCoracles x = e.by("sides 2;reach 0 0;reach 0 0;judge 0 0 0;judge 0 0 0;judge 0 0 9;", 1);
        e.asks(x, "paddles to 1", () -> x.years(seed(6, 1, 3, 1, 2, 1), 1, 1), 1);
        e.asks(x, "to the side one faces", () -> x.years(seed(6, 1, 3, 1, 2, 0), 1, 1), 0);
        e.asks(x, "ashore", () -> x.years(seed(6, 1, 3, 2, 2, 1), 1, 1), 0);
        e.asks(x, "isn't turning", () -> x.years(seed(6, 1, 3, 1, 2, 1), 1, 2), 0);
        // Who faces 1 on a pool by paddling ashore has seen 1 alone.
        e.asks(x, "another one then", () -> x.years(seed(6, 1, 3, 2, 2, 1, 6, 1, 3, 0, 2, 1), 2, 1), 1);
        x.call(0);
        x.call(0);
        e.asks(x, "landed", () -> x.years(seed(6, 1, 3, 0, 2, 1), 1, 1), 0);
        e.asks(x, "both are drawn still", () -> x.years(seed(6, 1, 3, 0, 2, 1, 6, 1, 3, 1, 2, 1), 2, 1), 1);
        e.asks(x, "both are drawn still", () -> x.years(seed(6, 1, 3, 0, 2, 1, 6, 0, 3, 1, 6, 0, 3, 1), 3, 0), 1);
    }

    private static int stir(int seed) {
        return seed * 1103515245 + 12345;
    }

    private static int draw(int seed, int n) {
        return (seed & 0x7fff0000) / 65536 % n;
    }

    /** The least seed from 0 on whose draws are these: of so many, what, of so many, what .. */
    private static int seed(int... draws) {
        for (int first = 0; first < 10_000_000; first++) {
            int now = first;
            boolean all = true;
            for (int i = 0; all && i < draws.length; i += 2) {
                now = stir(now);
                all = draw(now, draws[i]) == draws[i + 1];
            }
            if (all) {
                return first;
            }
        }
        throw new IllegalStateException("no such seed");
    }

    /** By how many one turns in a year who is alone on the only reach, of spin 0. */
    private static int turnedOnOne(int seed) {
        int first = stir(seed);
        int third = stir(stir(first));
        return draw(first, 6) == 2 ? draw(third, 8) : 0;
    }

    /** Bit 31 counts for nothing: seeds that become ints below 0 draw as others do. */
    private void seedsOfEachSign(RoundCoracles x) {
        int below = 0;
        int spins = 0;
        for (int s = -200; s < 200; s++) {
            int now = stir(s);
            if (draw(now, 6) == 2) {
                spins++;
                below += now < 0 ? 1 : 0;
                e.due("seed " + s, x.years(s, 1, 2), draw(stir(stir(now)), 8));
            }
        }
        e.due("some are below 0, some aren't", below > 9 && below < spins - 9, true);
    }

    private void see() {
        e.edge("A SIGHTING: how much is.", () -> {
            RoundCoracles x = e.by("sides 8;reach 0 0;judge 0 0 0;");
            e.due("1", x.see(0, 0, 7), 1);
            e.due("2, the same again", x.see(0, 0, 7), 2);
            e.due("3", x.see(0, 20, 0), 3);
            e.due("count", x.count(10), 3);
            e.due("no act", x.count(9), 0);
            x.steps(1);
            x.undo();
            e.due("isn't undone", x.count(10), 3);
        });
        e.edge("NONE (STATUS 2): there are 8, not 0 to 20, no such SIDE.", () -> {
            RoundCoracles x = e.by("sides 2;reach 0 0;judge 0 0 0;");
            int[][] bad = {{-1, 0}, {21, 0}, {0, -1}, {0, 2}, {0, 8}, {21, 2}, {Integer.MIN_VALUE, 0},
                {Integer.MAX_VALUE, 0}, {0, Integer.MIN_VALUE}, {0, Integer.MAX_VALUE}};
            for (int[] row : bad) {
                e.refused(x, 2, row[0] + " " + row[1], () -> x.see(0, row[0], row[1]));
            }
            for (int i = 1; i <= 8; i++) {
                e.due("see", x.see(0, 20, 1), i);
            }
            e.refused(x, 2, "there are 8", () -> x.see(0, 0, 0));
            e.refused(x, 2, "there are 8, and wrong", () -> x.see(0, 21, 2));
            x.forget();
            e.due("room again", x.see(0, 0, 1), 1);
        });
        e.edge("NoSuchElementException (ahead): no such JUDGE.", () -> {
            RoundCoracles x = e.by("sides 2;reach 0 0;judge 0 0 0;");
            e.nse(x, "judge 1", () -> x.see(1, 0, 0));
            e.nse(x, "judge 1, steps 21", () -> x.see(1, 21, 0));
            e.nse(x, "judge -1, side 2", () -> x.see(-1, 0, 2));
            for (int i = 0; i < 8; i++) {
                x.see(0, 0, 0);
            }
            e.nse(x, "judge 1, there are 8", () -> x.see(1, 0, 0));
        });
    }

    private void leans() {
        e.edge("LEANS: how many (what 0), the first (1; NONE: none), whether without (2).", () -> {
            RoundCoracles x = sees("turns lean/8;goes 0;reach 0 0;judge 3 0 0;", 0, 1, 0);
            leansAre(x, 2, 8, 0);
            x.see(0, 0, 0);
            leansAre(x, 0, NONE, 0);
        });
        e.edge("NoSuchElementException: another what.", () -> {
            RoundCoracles x = e.by("reach 0 0;judge 0 0 0;");
            e.nse(x, "what 3", () -> x.leans(3));
            e.nse(x, "what -1", () -> x.leans(-1));
            for (int far : FAR) {
                e.nse(x, "what " + far, () -> x.leans(far));
            }
        });
    }

    private void watch() {
        e.edge("WATCH NEXT: who (what 0; NONE), how many (1; 0: none).", () -> {
            RoundCoracles x = e.by("goes lean=1;reach 0 0;judge 0 0 9;judge 0 0 0;");
            watchIs(x, 1, 2);
            x.see(0, 0, 1);
            watchIs(x, NONE, 0);
            watchIs(new RoundCoracles(), NONE, 0);
        });
        e.edge("NoSuchElementException: another what.", () -> {
            RoundCoracles x = e.by("reach 0 0;judge 0 0 0;");
            e.nse(x, "what 2", () -> x.watch(2));
            e.nse(x, "what -1", () -> x.watch(-1));
            for (int far : FAR) {
                e.nse(x, "what " + far, () -> x.watch(far));
            }
        });
    }

    private void forget() {
        e.edge("All SIGHTINGS are forgotten.", () -> {
            RoundCoracles x = e.by("reach 0 0;judge 0 0 0;");
            String before = Edges.shot(x);
            x.forget();
            e.same("forget of none", Edges.shot(x), before);
            for (int i = 0; i < 8; i++) {
                x.see(0, 20, 3);
            }
            e.due("not so", x.leans(2), 0);
            x.forget();
            e.same("forget of eight", Edges.shot(x), before);
            leansAre(x, 9, 1, 1);
            x.see(0, 0, 0);
            leansAre(x, 9, 1, 1);
        });
    }

    private void floods() {
        e.edge("FLOODS.", () -> {
            RoundCoracles x = e.by("sides 2;reach 1 1;reach 0 0;judge 0 0 0;");
            e.asks(x, "2", () -> x.floods(0, 2, 2), 80);
        });
        e.edge("IllegalArgumentException (behind NoSuchElementException): steps, tenths.", () -> {
            RoundCoracles x = e.by("sides 2;goes 0;reach 0 1;judge 0 0 0;");
            e.iae(x, "0 steps", () -> x.floods(0, 0, 5));
            e.iae(x, "-1 steps", () -> x.floods(0, -1, 5));
            e.iae(x, "6 steps", () -> x.floods(0, 6, 5));
            e.iae(x, "-1 tenths", () -> x.floods(0, 1, -1));
            e.iae(x, "11 tenths", () -> x.floods(0, 1, 11));
            for (int far : FAR) {
                e.iae(x, "steps " + far, () -> x.floods(0, far, 5));
                e.iae(x, "tenths " + far, () -> x.floods(0, 1, far));
                e.iae(x, "both " + far, () -> x.floods(0, far, far));
                e.nse(x, "judge " + far, () -> x.floods(far, far, far));
            }
            e.nse(x, "no judge ahead", () -> x.floods(1, 0, 11));
            e.asks(x, "1 step, 0 tenths", () -> x.floods(0, 1, 0), 0);
            e.asks(x, "5 steps, 10 tenths", () -> x.floods(0, 5, 10), 100000);
        });
    }

    private void game() {
        e.edge("A GAME: how many couples rest (what 0), the first (1; NONE: none).", () -> {
            gameIs(e.by("sides 3;reach 0 0;judge 0 0 0;judge 0 0 0;"), 2, 1);
            gameIs(e.by("sides 3;reach 0 0;judge 0 0 20;judge 0 0 20;"), 1, 0);
        });
        e.edge("NoSuchElementException: also another what.", () -> {
            RoundCoracles x = e.by("reach 0 0;judge 0 0 0;judge 0 0 0;");
            e.nse(x, "what 2", () -> x.game(0, 1, 2));
            e.nse(x, "what -1", () -> x.game(0, 1, -1));
            e.nse(x, "judge 2", () -> x.game(2, 0, 0));
            e.nse(x, "other 2", () -> x.game(0, 2, 0));
            for (int far : FAR) {
                e.nse(x, "what " + far, () -> x.game(0, 1, far));
            }
        });
        e.edge("IllegalArgumentException (behind that): both are one.", () -> {
            RoundCoracles x = e.by("reach 0 0;judge 0 0 0;judge 0 0 0;");
            e.iae(x, "0 0", () -> x.game(0, 0, 0));
            e.iae(x, "1 1", () -> x.game(1, 1, 1));
            e.nse(x, "no what ahead", () -> x.game(0, 0, 2));
            e.nse(x, "no judge ahead", () -> x.game(2, 2, 0));
        });
    }

    private void years() {
        e.edge("YEARS: LANDED (what 0), FAIR (1), turned (2).", () -> {
            RoundCoracles x = e.by("sides 2;reach 0 3;judge 0 0 0;judge 0 0 20;", 1);
            int seed = seed(6, 4);
            e.asks(x, "landed", () -> x.years(seed, 1, 0), 1);
            e.asks(x, "fair", () -> x.years(seed, 1, 1), 1);
            e.asks(x, "turned", () -> x.years(seed, 1, 2), 3);
        });
        e.edge("NoSuchElementException: another what.", () -> {
            RoundCoracles x = e.by("reach 0 0;judge 0 0 0;");
            e.nse(x, "what 3", () -> x.years(0, 0, 3));
            e.nse(x, "what -1", () -> x.years(0, 0, -1));
            for (int far : FAR) {
                e.nse(x, "what " + far, () -> x.years(0, 0, far));
            }
        });
        e.edge("IllegalArgumentException (behind that): n.", () -> {
            RoundCoracles x = e.by("turns 1;goes 0;reach 0 0;judge 0 0 0;bigot 0 0 0;");
            for (int what = 0; what <= 2; what++) {
                int asked = what;
                e.iae(x, "-1", () -> x.years(5, -1, asked));
                e.iae(x, "61", () -> x.years(5, 61, asked));
                e.asks(x, "0", () -> x.years(5, 0, asked), 0);
            }
            for (int far : FAR) {
                e.iae(x, "n " + far, () -> x.years(far, far, 0));
            }
            e.nse(x, "no what ahead", () -> x.years(5, 61, 3));
            RoundCoracles y = e.by("judge 0 0 0;judge 0 0 20;");
            e.asks(y, "60", () -> y.years(5, 60, 0), 2);
        });
    }
}
