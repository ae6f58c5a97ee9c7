/** The edges of texts: promises 1 to 4, and what the terms say of a text. */
final class TextEdges {
    private final Edges e;

    TextEdges(Edges edges) {
        e = edges;
    }

    void all() {
        e.chapter(Edges.TERMS);
        limits();
        tokens();
        lines();
        expressions();
        values();
        faults();
        newObject();
        feed();
        gorge();
        fault();
    }

    private void limits() {
        e.edge("The constants: `NONE = -1`: There is none; ASHORE above.", () -> {
            e.due("NONE", RoundCoracles.NONE, -1);
            e.due("there is none", e.by("reach 0 0;").first(), RoundCoracles.NONE);
            e.due("ashore above", e.by("reach 0 0;judge 0 0 0;").judge(0, 0), RoundCoracles.NONE);
        });
        e.edge("SIDES 0, 1 .. of the question, round about (2 to 8; 4 without).", () -> {
            e.faulty("sides 0;", 2, 6);
            e.faulty("sides 1;", 2, 6);
            e.due("2", e.by("sides 2;").count(0), 2);
            e.due("8", e.by("sides 8;").count(0), 8);
            e.faulty("sides 9;", 2, 6);
            e.due("without", e.by("reach 0 0;").count(0), 4);
            e.due("round 2", e.by("sides 2;reach 0 1;judge 1 0 0;").then(0, 1, 1), 0);
            e.due("round 4", e.by("reach 0 1;judge 3 0 0;").then(0, 1, 1), 0);
            e.due("round 8", e.by("sides 8;reach 0 1;judge 7 0 0;").then(0, 1, 1), 0);
            e.due("not round yet", e.by("sides 8;reach 0 1;judge 6 0 0;").then(0, 1, 1), 7);
        });
        e.edge("REACHES 0, 1 .. (at most 9): FLOW (0 to 3; a POOL is one of FLOW 0), SPIN (0 to 7).",
                () -> {
            RoundCoracles x = e.by("reach 0 7;reach 3 0;" + "reach 1 1;".repeat(6) + "reach 0 6;");
            e.due("nine", x.count(1), 9);
            e.due("flow 0", x.reach(0, 0), 0);
            e.due("spin 7", x.reach(0, 1), 7);
            e.due("flow 3", x.reach(1, 0), 3);
            e.due("spin 0", x.reach(1, 1), 0);
            e.due("the ninth", x.reach(8, 1), 6);
            e.due("pools", x.count(7), 257);
            e.faulty("reach 0 0;".repeat(10), 2, 90);
            e.faulty("reach 4 0;", 2, 6);
            e.faulty("reach 0 8;", 2, 8);
        });
        e.edge("JUDGES 0, 1 .. (at most 8): the SIDE that one FACES at first, LEAN (0 to 9), when one is"
                + " LET GO (0 to 20).", () -> {
            RoundCoracles x = e.by("judge 3 9 20;" + "judge 0 0 0;".repeat(6) + "bigot 2 0 0;");
            e.due("eight", x.count(2), 8);
            e.due("faces", x.judge(0, 1), 3);
            e.due("lean", x.judge(0, 3), 9);
            e.due("let go", x.judge(0, 4), 20);
            e.due("the eighth", x.judge(7, 1), 2);
            e.faulty("judge 0 0 0;".repeat(9), 2, 96);
            e.faulty("bigot 0 0 0;".repeat(9), 2, 96);
            e.faulty("judge 0 10 0;", 2, 8);
            e.faulty("judge 0 0 21;", 2, 10);
        });
        e.edge("Rules: TURNS, GOES.", () -> {
            RoundCoracles x = e.by("goes 2;turns 3;" + "reach 0 0;".repeat(3) + "judge 0 0 0;", 1);
            e.due("turned", x.judge(0, 1), 3);
            e.due("gone on", x.judge(0, 0), 2);
        });
    }

    private void tokens() {
        e.edge("A TEXT of at most 700 bytes tells it.", () -> {
            String row = "sides 3;" + " ".repeat(682);
            RoundCoracles x = e.by(row + "reach 2 5;");
            e.due("to the last byte", x.reach(0, 1), 5);
            e.faulty(row + "reach 2 5?", 1, 699);
            e.faulty(row + " reach 2 5", 1, 700);
            e.faulty(row + "turns lean", 1, 700);
            e.faulty(row + "     turns", 1, 700);
            e.good("turns " + "1+".repeat(346) + "1;");
            e.good("goes " + "1 or ".repeat(138) + "1   ;");
        });
        e.edge("TOKENS: words (a .. z, the longest row),", () -> {
            e.faulty("sidess 4;", 1, 0);
            e.faulty("sidesreach 4;", 1, 0);
            e.faulty("side s 4;", 1, 0);
            e.faulty("turnslean;", 1, 0);
            e.faulty("turns leanlean;", 3, 6);
            e.good("sides4;reach0 0;judge0 0 0;turns(lean);");
            e.faulty("turns 1or1and(1)or(1);x", 1, 22);
            e.faulty("Sides 4;", 1, 0);
            e.faulty("turns Lean;", 1, 6);
            e.faulty("turns lean`;", 1, 10);
            e.faulty("turns lean{;", 1, 10);
            e.faulty("turns a;", 3, 6);
            e.faulty("turns z;", 3, 6);
            e.faulty("turns leanz;", 3, 6);
            e.faulty("turns 1 zor 1;", 1, 8);
            likeWords();
        });
        e.edge("NUMBERS (1 to 4 digits),", () -> {
            e.due("4 digits", e.by("sides 0003;").count(0), 3);
            e.faulty("sides 00003;", 2, 6);
            e.good("turns 9999;");
            e.good("turns 0000;");
            e.faulty("turns 00000;", 2, 6);
            e.faulty("reach 00 000;reach 00000 0;", 2, 19);
            e.good("judge 0003 0009 0020;");
            e.faulty("reach 11;", 2, 6);
            e.faulty("reach 01;", 1, 8);
        });
        e.edge("signs ; ( ) + - * / < = ; blanks (32, 10) between them count for nothing.", () -> {
            eachByteBehindALine();
            eachByteInAnExpression();
            e.good(" \n sides\n\n3 ; turns\n( 1 ) \n+1 ;\n ");
            e.faulty("si des 3;", 1, 0);
            e.faulty("turns 1 2;", 1, 8);
        });
    }

    /** A word with one letter changed is another word, which stands nowhere. */
    private void likeWords() {
        for (String word : new String[] {"sides", "reach", "judge", "bigot", "turns", "goes"}) {
            for (int i = 0; i < word.length(); i++) {
                e.faulty(changed(word, i) + " 1 1 1;", 1, 0);
            }
        }
        for (String word : new String[] {"lean", "seen", "faces", "here", "step", "spin", "not"}) {
            for (int i = 0; i < word.length(); i++) {
                e.faulty("turns " + changed(word, i) + ";", 3, 6);
            }
        }
        for (String word : new String[] {"or", "and"}) {
            for (int i = 0; i < word.length(); i++) {
                e.faulty("goes 1 " + changed(word, i) + " 1;", 1, 7);
            }
        }
        for (int i = 0; i < 4; i++) {
            e.faulty("goes " + changed("flow", i) + ";", 3, 5);
        }
    }

    private static String changed(String word, int at) {
        return word.substring(0, at) + 'x' + word.substring(at + 1);
    }

    private void eachByteBehindALine() {
        for (int b = 0; b < 256; b++) {
            if (b == 32 || b == 10) {
                e.good("sides 4;" + (char) b);
            } else {
                e.faulty("sides 4;" + (char) b, 1, 8);
            }
        }
    }

    private void eachByteInAnExpression() {
        for (int b = 0; b < 256; b++) {
            String text = "turns 1" + (char) b + "1;";
            if (b >= '0' && b <= '9' || "+-*/<=".indexOf(b) >= 0) {
                e.good(text);
            } else if (b == 32 || b == 10 || b == ';') {
                e.faulty(text, 1, 8);
            } else {
                e.faulty(text, 1, 7);
            }
        }
    }

    private void lines() {
        e.edge("In quotes is what stands there, [ ] perhaps, * any number of times, | one of some. GORGE:"
                + " LINE*.", () -> {
            e.good("");
            e.good(" ");
            e.due("no line", e.by("").count(0), 4);
            e.good("reach 0 0;");
            e.good("reach 0 0;sides 2;reach 1 1;judge 1 0 0;turns 1;reach 2 2;bigot 0 0 0;goes 1;");
            e.faulty(";", 1, 0);
            e.faulty("reach 0 0;;", 1, 10);
            e.faulty("reach 0 0;lean", 1, 10);
            e.faulty("0", 1, 0);
        });
        e.edge("LINE: ('sides' NUMBER | 'reach' FLOW SPIN | ('judge' | 'bigot') SIDE LEAN NUMBER |"
                + " ('turns' | 'goes') EXPR) ';',", () -> {
            e.faulty("sides;", 1, 5);
            e.faulty("sides 4 4;", 1, 8);
            e.faulty("reach;", 1, 5);
            e.faulty("reach 0;", 1, 7);
            e.faulty("reach 0 0 0;", 1, 10);
            e.faulty("reach 0 0 reach 0 0;", 1, 10);
            e.faulty("judge;", 1, 5);
            e.faulty("judge 0;", 1, 7);
            e.faulty("judge 0 0;", 1, 9);
            e.faulty("judge 0 0 0 0;", 1, 12);
            e.faulty("bigot 0 0;", 1, 9);
            e.faulty("bigot judge 0 0 0;", 1, 6);
            e.faulty("turns;", 1, 5);
            e.faulty("goes;", 1, 4);
            e.faulty("turns 1 goes 1;", 1, 8);
            RoundCoracles x = e.by("judge 1 2 3;bigot 3 4 5;");
            for (int what = 1; what <= 5; what++) {
                e.due("judge " + what, x.judge(0, what), new int[] {0, 1, 0, 2, 3, 0}[what]);
                e.due("bigot " + what, x.judge(1, what), new int[] {0, 3, 0, 4, 5, 1}[what]);
            }
        });
        e.edge("all in capitals but EXPR being NUMBERS.", () -> {
            e.faulty("sides (4);", 1, 6);
            e.faulty("sides lean;", 1, 6);
            e.faulty("reach flow 0;", 1, 6);
            e.faulty("reach 0 spin;", 1, 8);
            e.faulty("reach -1 0;", 1, 6);
            e.faulty("judge faces 0 0;", 1, 6);
            e.faulty("judge 0 lean 0;", 1, 8);
            e.faulty("judge 0 0 step;", 1, 10);
            e.good("turns (lean);");
        });
    }

    private void expressions() {
        e.edge("EXPR: AND ('or' AND)*. AND: NOT ('and' NOT)*.", () -> {
            e.gives("1 or 1 and 0", 1);
            e.gives("0 and 1 or 1", 1);
            e.gives("(1 or 1) and 0", 0);
            e.gives("0 or 0 or 3", 1);
            e.gives("1 and 2 and 3 and 0", 0);
            e.gives("0 or 5", 1);
            e.faulty("turns 1 or;", 1, 10);
            e.faulty("turns 1 and;", 1, 11);
            e.faulty("turns 1 or or 1;", 3, 11);
            e.faulty("turns 1 and or 1;", 3, 12);
        });
        e.edge("NOT: 'not' NOT | SUM [('<' | '=') SUM].", () -> {
            e.gives("not 0 and 0", 0);
            e.gives("not 1 or 1", 1);
            e.gives("not 0+1", 0);
            e.gives("not 1=0", 1);
            e.gives("not not 0<1", 1);
            e.gives("1<2 and not 2<1", 1);
            e.gives("1+1=2", 1);
            e.gives("2=1+1", 1);
            e.faulty("turns 1<2<3;", 1, 9);
            e.faulty("turns 1=2=3;", 1, 9);
            e.faulty("turns 1<2=1;", 1, 9);
            e.faulty("turns 1<;", 1, 8);
            e.faulty("turns <1;", 1, 6);
            e.faulty("turns 1<not 1;", 3, 8);
            e.faulty("turns not;", 1, 9);
        });
        e.edge("SUM: PRODUCT (('+' | '-') PRODUCT)*. PRODUCT: PART (('*' | '/') PART)*.", () -> {
            e.gives("2+3*4", 14);
            e.gives("20-6/2", 17);
            e.gives("2*3+4*5", 26);
            e.faulty("turns 1+;", 1, 8);
            e.faulty("turns 1*;", 1, 8);
            e.faulty("turns +1;", 1, 6);
            e.faulty("turns -1;", 1, 6);
            e.faulty("turns 1--1;", 1, 8);
            e.faulty("turns 1+*1;", 1, 8);
        });
        e.edge("PART: NUMBER | VALUE | '(' EXPR ')'.", () -> {
            e.gives("(((((7)))))", 7);
            e.gives("(0 or 1)+(not 0)*4", 5);
            e.gives("2*(1<2)", 2);
            e.faulty("turns ();", 1, 7);
            e.faulty("turns (1;", 1, 8);
            e.faulty("turns 1);", 1, 7);
            e.faulty("turns (1))", 1, 9);
            e.faulty("turns (1)(1);", 1, 9);
            e.faulty("turns 2(1);", 1, 7);
        });
        e.edge("From the left; ints that wrap, / cut down to 0, by 0 gives 0;", () -> {
            e.gives("9-4-3", 2);
            e.gives("60/6/5", 2);
            e.gives("7/2*2", 6);
            e.gives("2*7/4", 3);
            e.gives("9-4+3", 8);
            // 9999 * 9999 * 9999 wraps to -1027349969; 65536 * 32768 is the least int.
            e.gives("9999*9999*9999<0", 1);
            e.gives("9999*9999*9999+1027*1000*1000+349*1000+969=0", 1);
            e.gives("256*256*256*128<0", 1);
            e.gives("256*256*256*128-1=0-1-256*256*256*128", 1);
            e.gives("256*256*256*128/(0-1)=256*256*256*128", 1);
            e.gives("256*256*256*256", 0);
            e.gives("10+(0-7)/2", 7);
            e.gives("10+7/(0-2)", 7);
            e.gives("10+(0-7)/(0-2)", 13);
            e.gives("1/2", 0);
            e.gives("7/0", 0);
            e.gives("5+0/0", 5);
            e.gives("5+7/(3-3)", 5);
        });
        e.edge("tests, not, and, or are 1 or 0 (what isn't 0 holds).", () -> {
            e.gives("5+(3<4)", 6);
            e.gives("5+(4<4)", 5);
            e.gives("5+(4=4)", 6);
            e.gives("5+(4=3)", 5);
            e.gives("5+(0-1<0)", 6);
            e.gives("5+(not 0)", 6);
            e.gives("5+(not 7)", 5);
            e.gives("5+(not (0-1))", 5);
            e.gives("5+(not not 7)", 6);
            e.gives("5+(7 and 8)", 6);
            e.gives("5+((0-1) and (0-1))", 6);
            e.gives("5+(1 and 0)", 5);
            e.gives("5+(0 and 1)", 5);
            e.gives("5+(1 and 2)", 6);
            e.gives("5+(7 or 0)", 6);
            e.gives("5+(0 or 0-1)", 6);
            e.gives("5+(0 or 0)", 5);
        });
    }

    private void values() {
        e.edge("VALUES of a JUDGE on a REACH: 'lean', 'seen' (how many SIDES one has SEEN), 'faces' (the"
                + " SIDE), 'here' (how many others are on the REACH), 'step', of TURNS also 'spin', of GOES"
                + " 'flow'.", () -> {
            e.gives("lean", 2);
            e.gives("seen", 1);
            e.gives("faces", 3);
            e.gives("here", 0);
            e.gives("step", 0);
            e.gives("spin", 5);
            e.faulty("turns flow;", 3, 6);
            e.faulty("goes spin;", 3, 5);
            e.good("goes lean+seen+faces+here+step+flow;");
            String sees = "sides 8;turns seen;reach 0 0;judge 0 0 0;";
            // 0 and on by 1, 1 and on by 2, 3 and on by 3, 6 and on by 4: 2; on by 5: 7; on by 6: 5.
            e.due("seen, of each step", e.by(sees).turned(0, 6), 21);
            // 0, 4, 0, 4: only two sides are seen.
            e.due("seen, but once", e.by("sides 8;turns 4+seen*0;goes seen=3;reach 0 0;judge 0 0 0;")
                    .when(0, 1), Edges.NONE);
            RoundCoracles x = e.by("turns here*10+(faces=3);reach 0 0;reach 0 0;goes lean;"
                    + "judge 3 0 0;judge 2 1 0;judge 3 0 0;judge 3 0 9;");
            e.due("two others here", x.turned(0, 1), 21);
            e.due("two, the other way", x.turned(1, 1), 20);
            e.due("one has gone", x.turned(2, 1), 11);
            e.due("alone on the other reach", x.turned(1, 2), 20);
            e.due("step", e.by("turns step;reach 0 0;judge 0 0 5;").turned(0, 8), 5 + 6 + 7);
            e.due("step, of goes", e.by("goes step=3;reach 0 0;judge 0 0 0;").when(0, 1), 4);
            e.due("flow", e.by("goes flow-1;reach 3 0;reach 0 0;reach 0 0;judge 0 0 0;").then(0, 1, 0),
                    2);
        });
    }

    private void faults() {
        e.edge("FAULTS, the first along the text, at a TOKEN's first byte, of one TOKEN the least:", () -> {
            e.faulty("reach 9 9;sides 1;", 2, 6);
            e.faulty("reach 1 9;x", 2, 8);
            e.faulty("turns foo 12345;", 3, 6);
            e.faulty("  nothing;", 1, 2);
            e.faulty("judge 0 0 0;turns foo;sides 4;", 3, 18);
            // A second one and behind a judge; of 5 digits and no side; a number and too deep.
            e.faulty("sides 4;judge 0 0 0;sides 4;", 4, 20);
            e.faulty("judge 99999 0 0;", 2, 6);
            e.faulty("turns ((((((foo;", 2, 12);
            e.faulty("99999", 1, 0);
            e.faulty("turns 1 99999;", 1, 8);
        });
        e.edge("1 a TOKEN that can't stand there, or is none (the text's length where it ends too soon);",
                () -> {
            e.faulty("lean 4;", 1, 0);
            e.faulty("sides 4;or", 1, 8);
            e.faulty("sides 4)", 1, 7);
            e.faulty("sides !4;", 1, 6);
            e.faulty("sides", 1, 5);
            e.faulty("sides ", 1, 6);
            e.faulty("sides 4", 1, 7);
            e.faulty("sides 4\n \n", 1, 10);
            e.faulty("reach 0", 1, 7);
            e.faulty("judge 0 0", 1, 9);
            e.faulty("turns", 1, 5);
            e.faulty("turns (1", 1, 8);
            e.faulty("turns 1+", 1, 8);
            e.faulty("turns not", 1, 9);
            e.faulty("turns 1 or", 1, 10);
        });
        e.edge("2 one that can, but is too much: a NUMBER of 5 digits or more, or (not in an EXPR) not as"
                + " told,", () -> {
            e.faulty("sides 12345;", 2, 6);
            e.faulty("reach 12345 0;", 2, 6);
            e.faulty("reach 0 123456789012;", 2, 8);
            e.faulty("judge 0 00000 0;", 2, 8);
            e.faulty("judge 0 0 00000;", 2, 10);
            e.faulty("turns 10000;", 2, 6);
            e.faulty("turns 1+4294967297;", 2, 8);
            e.good("turns 9999;goes 1000;");
            e.faulty("reach 4 0;", 2, 6);
            e.faulty("reach 9999 0;", 2, 6);
            e.faulty("reach 3 8;", 2, 8);
            e.faulty("judge 0 10 0;", 2, 8);
            e.faulty("judge 0 9 21;", 2, 10);
            e.good("reach 3 7;judge 0 9 20;");
        });
        e.edge("the first TOKEN of the 10th REACH, the 9th JUDGE,", () -> {
            e.good("reach 0 0;".repeat(9) + "judge 0 0 0;".repeat(8));
            e.faulty("reach 0 0;".repeat(9) + "reach 9 9;", 2, 90);
            e.faulty("reach 0 0;".repeat(9) + " reach", 2, 91);
            e.faulty("judge 0 0 0;".repeat(8) + "judge 9 9 9;", 2, 96);
            e.faulty("judge 0 0 0;bigot 0 0 0;".repeat(4) + "bigot", 2, 96);
        });
        e.edge("of an EXPR within 6 others (a NUMBER, any word, a parenthesis),", () -> {
            e.good("turns (((((1)))));");
            e.good("turns (((((1)))))*(((((lean)))));goes (((((not 1)))));");
            e.faulty("turns ((((((1))))));", 2, 12);
            e.faulty("goes ((((((1))))));", 2, 11);
            e.faulty("turns ((((((99999", 2, 12);
            e.faulty("turns ((((((lean))))));", 2, 12);
            e.faulty("turns ((((((not 1))))));", 2, 12);
            e.faulty("turns ((((((or", 2, 12);
            e.faulty("turns ((((((reach", 2, 12);
            e.faulty("turns (((((((1)))))));", 2, 12);
            e.faulty("turns 1+(1+(1+(1+(1+(1+(1))))));", 2, 24);
            e.faulty("turns (((((( ))))));", 1, 13);
            e.faulty("turns ((((((+1", 1, 12);
            e.faulty("turns ((((((;", 1, 12);
            e.faulty("turns ((((((", 1, 12);
            e.faulty("turns ((((((!", 1, 12);
        });
        e.edge("the seventh 'not' side by side;", () -> {
            e.gives("not not not not not not 7", 1);
            e.faulty("turns not not not not not not not 1;", 2, 30);
            e.faulty("turns 1 and not not not not not not not 1;", 2, 36);
            e.faulty("turns (((((not not not not not not not", 2, 35);
            e.good("turns not not not (not not not not not not 1);");
            e.good("turns not not not not not not 1 or not not not not not not 1;");
            e.good("turns not not not not not not 1 and not not not not not not 1;");
        });
        e.edge("3 any word where a PART must stand that is no VALUE of this EXPR,", () -> {
            e.faulty("turns foo;", 3, 6);
            e.faulty("turns turns;", 3, 6);
            e.faulty("turns and;", 3, 6);
            e.faulty("turns 1+not 1;", 3, 8);
            e.faulty("turns 1*or;", 3, 8);
            e.faulty("turns 1=foo;", 3, 8);
            e.faulty("turns (foo);", 3, 7);
            e.faulty("turns not foo;", 3, 10);
            e.faulty("turns not not not not not not foo;", 3, 30);
            e.faulty("turns flow;goes spin;", 3, 6);
            e.faulty("turns spin;goes spin;", 3, 16);
            e.faulty("turns lea;", 3, 6);
            e.faulty("turns leans;", 3, 6);
            e.faulty("turns 1 foo;", 1, 8);
        });
        e.edge("a SIDE that there isn't (by 'sides' as told ahead; of 4, if it isn't);", () -> {
            e.good("judge 3 0 0;");
            e.faulty("judge 4 0 0;", 3, 6);
            e.faulty("bigot 9999 0 0;", 3, 6);
            e.good("sides 2;judge 1 0 0;");
            e.faulty("sides 2;judge 2 0 0;", 3, 14);
            e.good("sides 8;bigot 7 0 0;");
            e.faulty("sides 8;bigot 8 0 0;", 3, 14);
        });
        e.edge("4 'sides' behind any JUDGE (a second one, too);", () -> {
            e.faulty("judge 0 0 0;sides 4;", 4, 12);
            e.faulty("bigot 0 0 0;reach 0 0;sides", 4, 22);
            e.faulty("sides 4;bigot 0 0 0;sides 4;", 4, 20);
            e.good("reach 0 0;turns 1;sides 2;judge 0 0 0;");
        });
        e.edge("5 a second 'sides', 'turns', 'goes'.", () -> {
            e.faulty("sides 4;sides 4;", 5, 8);
            e.faulty("sides 4;reach 0 0;sides", 5, 18);
            e.faulty("turns 1;turns 1;", 5, 8);
            e.faulty("goes 1;turns 1;goes 1;", 5, 15);
            e.faulty("turns 1;goes 1;turns foo", 5, 15);
            e.good("turns 1;goes 1;");
        });
    }

    private void newObject() {
        e.chapter(1);
        e.edge("4 SIDES, no REACHES, no JUDGES.", () -> {
            RoundCoracles x = new RoundCoracles();
            e.due("sides", x.count(0), 4);
            for (int what = 1; what <= 14; what++) {
                e.due("count " + what, x.count(what), what == 8 ? Edges.NONE : 0);
            }
            e.due("no fault", x.fault(), Edges.NONE);
            e.due("no act", x.undo(), Edges.NONE);
            e.due("no image", x.restore(), false);
            e.nse(x, "no reach", () -> x.reach(0, 0));
            e.nse(x, "no judge", () -> x.judge(0, 0));
            e.asks(x, "the last side", () -> x.seat(3), Edges.NONE);
            e.nse(x, "no fifth side", () -> x.seat(4));
        });
    }

    private void feed() {
        e.chapter(2);
        e.edge("Twenty bytes come behind the tape, of each number the highest first: how many it has;",
                () -> {
            RoundCoracles x = new RoundCoracles();
            // "sides 7;reach 2 3; j" and "udge 5 1 4;" with blanks behind.
            e.due("20", x.feed(0x73696465, 0x7320373b, 0x72656163, 0x68203220, 0x333b206a), 20);
            e.due("40", x.feed(0x75646765, 0x20352031, 0x20343b20, 0x20202020, 0x0a0a0a0a), 40);
            e.due("bytes", x.count(11), 40);
            e.due("all are read", x.gorge(40), 0);
            e.due("sides", x.count(0), 7);
            e.due("spin", x.reach(0, 1), 3);
            e.due("lean", x.judge(0, 3), 1);
            e.due("anew", x.feed(-1, -1, -1, -1, -1), 20);
            e.due("a byte of 255", x.gorge(1), 1);
        });
        e.edge("NONE, and none come, if it would have more than 700.", () -> {
            RoundCoracles x = new RoundCoracles();
            for (int i = 1; i <= 34; i++) {
                x.feed(0x20202020, 0x20202020, 0x20202020, 0x20202020, 0x20202020);
            }
            e.due("680", x.count(11), 680);
            e.due("700", x.feed(0x20202020, 0x20202020, 0x20202020, 0x20202020, 0x72656163), 700);
            e.due("720", x.feed(0x21212121, 0x21212121, 0x21212121, 0x21212121, 0x21212121), -1);
            e.due("700 still", x.count(11), 700);
            for (int status = 12; status <= 14; status++) {
                e.due("nothing is refused", x.count(status), 0);
            }
            e.due("as they were", x.gorge(696), 0);
            e.due("room again", x.feed(0, 0, 0, 0, 0), 20);
        });
    }

    private void gorge() {
        e.chapter(3);
        e.edge("The tape's first n bytes (it is empty then) are a GORGE, all anew: 0,", () -> {
            RoundCoracles x = e.by("sides 2;turns 1;goes 1;" + "reach 1 1;".repeat(9)
                    + "bigot 1 9 0;".repeat(8), 4);
            e.due("the tape is empty", x.count(11), 0);
            Edges.feed(x, "reach 0 5;judge 3 2 1;sides x");
            e.due("the first ones alone", x.gorge(22), 0);
            e.due("the tape is empty", x.count(11), 0);
            e.due("sides", x.count(0), 4);
            e.due("reaches", x.count(1), 1);
            e.due("judges", x.count(2), 1);
            e.due("the step", x.count(3), 0);
            e.due("ashore", x.judge(0, 0), Edges.NONE);
            e.due("nothing seen", x.judge(0, 2), 0);
            e.due("no bigot, no rule of turns", x.turned(0, 2), 3);
            e.due("no rule of goes", x.then(0, 2, 0), 0);
            e.due("no bytes", x.gorge(0), 0);
            e.due("no reaches", x.count(1), 0);
            anewAgain(x);
            // The text ends within a word, a number, a row of blanks of the tape.
            Edges.feed(x, "turns leanlean;");
            e.due("a word is cut", x.gorge(10), 1);
            e.due("its end", x.fault(), 10);
            Edges.feed(x, "reach 1 123456;");
            e.due("a number is cut", x.gorge(9), 1);
            e.due("its end", x.fault(), 9);
            Edges.feed(x, "reach 1 1 ;");
            e.due("blanks are cut", x.gorge(10), 1);
            e.due("their end", x.fault(), 10);
            Edges.feed(x, "reach 1 1;");
            e.due("no bytes of some", x.gorge(0), 0);
            e.due("no reaches", x.count(1), 0);
            e.due("the tape is empty", x.count(11), 0);
        });
        e.edge("or the FAULT (all stays, but STATUS).", () -> {
            RoundCoracles x = e.by("sides 2;reach 0 1;judge 0 0 0;", 1);
            x.see(0, 1, 1);
            x.image();
            String before = Edges.shot(x);
            e.due("a fault", Edges.tell(x, "sides 5;reach 3 3;judge 4 4 4;turns 1;x"), 1);
            e.same("all but status and the place", Edges.shot(x).replace("status0=1", "status0=0")
                    .replace("fault 38", "fault -1"), before);
            e.due("the place", x.fault(), 38);
            e.due("status", x.count(12), 1);
            e.due("the tape is empty", x.count(11), 0);
            e.due("the rules stay", x.when(0, 0), 1);
            e.due("sightings stay", x.leans(2), 0);
            e.due("acts stay", x.undo(), 0);
            e.due("the image stays", x.restore(), true);
            e.due("its step", x.count(3), 1);
        });
        e.edge("ACTS, SIGHTINGS, the image are gone.", () -> {
            RoundCoracles x = e.by("sides 2;reach 0 1;judge 0 0 0;", 1);
            x.see(0, 1, 0);
            x.steps(0);
            x.see(0, 21, 0);
            Edges.tell(x, "x");
            x.image();
            e.due("the same again", Edges.tell(x, "sides 2;reach 0 1;judge 0 0 0;"), 0);
            e.due("acts", x.count(9), 0);
            e.due("undo", x.undo(), Edges.NONE);
            e.due("sightings", x.count(10), 0);
            e.due("leans", x.leans(0), 9);
            e.due("the image", x.restore(), false);
            for (int status = 12; status <= 14; status++) {
                e.due("status stays", x.count(status), 1);
            }
        });
        e.edge("IllegalArgumentException: the tape has not so many, n below 0 (nothing changes).", () -> {
            RoundCoracles x = e.by("sides 2;reach 0 1;judge 0 0 0;", 1);
            e.iae(x, "1 of none", () -> x.gorge(1));
            x.image();
            Edges.tell(x, "?");
            Edges.feed(x, "sides 3;            ");
            e.iae(x, "21 of 20", () -> x.gorge(21));
            e.iae(x, "700 of 20", () -> x.gorge(700));
            e.iae(x, "701", () -> x.gorge(701));
            e.iae(x, "the greatest", () -> x.gorge(Integer.MAX_VALUE));
            e.iae(x, "-1", () -> x.gorge(-1));
            e.iae(x, "the least", () -> x.gorge(Integer.MIN_VALUE));
            e.due("the image is there", x.restore(), true);
            e.due("20 of 20", x.gorge(20), 0);
            e.due("sides", x.count(0), 3);
        });
    }

    /** Nothing is left of the texts ahead, read well or not. */
    private void anewAgain(RoundCoracles x) {
        String full = "sides 8;turns 1+1;goes 1+1+1;" + "reach 3 7;".repeat(9) + "bigot 7 9 0;".repeat(8);
        for (String end : new String[] {"", "?"}) {
            for (int again = 0; again < 3; again++) {
                e.due("a full text", Edges.tell(x, full + end), end.length());
                e.due("a small one", Edges.tell(x, "judge 3 0 0;reach 0 1;"), 0);
                e.due("sides", x.count(0), 4);
                e.due("reaches", x.count(1), 1);
                e.due("judges", x.count(2), 1);
                e.due("no bigot, no turns, no goes", x.turned(0, 60), 4);
                e.due("no goes", x.when(0, 1), 4);
                e.due("the other rule", Edges.tell(x, "goes 2;reach 0 3;reach 0 3;judge 0 0 0;"), 0);
                e.due("no turns", x.turned(0, 1), 3);
                e.due("goes", x.then(0, 1, 0), Edges.LANDED);
                e.due("a full text", Edges.tell(x, full + end), end.length());
                e.due("nothing", Edges.tell(x, ""), 0);
                e.due("four sides", x.count(0), 4);
                e.due("no judges", x.count(2), 0);
            }
        }
    }

    private void fault() {
        e.chapter(4);
        e.edge("The place of the latest gorge()'s FAULT; NONE without.", () -> {
            RoundCoracles x = new RoundCoracles();
            e.due("no text yet", x.fault(), Edges.NONE);
            Edges.tell(x, "sides 4;  x");
            e.due("of the first", x.fault(), 10);
            Edges.tell(x, "?");
            e.due("of the latest", x.fault(), 0);
            Edges.tell(x, "sides 4");
            e.due("where it ends", x.fault(), 7);
            e.iae(x, "no text at all", () -> x.gorge(1));
            e.due("still", x.fault(), 7);
            Edges.tell(x, "");
            e.due("without", x.fault(), Edges.NONE);
        });
    }
}
