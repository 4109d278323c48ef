/** The edges of chapter 2 (RUNS, TURNS, STEPS and RULES): each test bears the sentence of the document that names the edge. */
public final class RunEdgeTest extends Bench {
    // 300 steps, and 299: what stands behind is the 301st, the 300th.
    private static final String STEPS_300 = "q=149;while(q){q=q-1;}";
    private static final String STEPS_299 = "r=1;q=148;while(q){q=q-1;}";

    private RunEdgeTest(String sentence) {
        super(sentence);
    }

    private void manyTurns(int client, int n) {
        for (int i = 0; i < n; i++) {
            turns(client, 0);
        }
    }

    /** Client 0 does a text alone: DONE with so many steps, the cells being so. */
    private static void done(String sentence, String s, int steps, long... cells) {
        RunEdgeTest t = new RunEdgeTest(sentence);
        t.due("a run of " + s, t.does(s), 1);
        t.isRow(0, 0, 1, 0, 0, steps, 0);
        t.isCells(cells);
        t.due("replays", t.x.replays(), 1);
    }

    /** Client 0 does a text alone: THROWN with this value and so many steps, and nothing of it stays. */
    private static void thrown(String sentence, String s, long value, int steps) {
        RunEdgeTest t = new RunEdgeTest(sentence);
        t.due("a run of " + s, t.does(s), 2);
        t.isRow(0, value, 2, 0, 0, steps, 0);
        t.isCells(0, 0, 0, 0);
        t.isVersions(0, 0, 0, 0);
        t.due("rules", t.x.rules(), 0);
        t.isClient(0, 0, 0, NONE, 0, 0, 0, 0, 0, 0);
        t.due("replays", t.x.replays(), 1);
    }

    private static void cellsAndVersions() {
        RunEdgeTest t = new RunEdgeTest("CELLS have a value (0) and a VERSION (0), which grows by 1 with each writing");
        t.isCells(new long[16]);
        t.isVersions(new int[16]);
        t.x.put(A, 3);
        t.x.put(A, 3);
        t.due("done", t.does("a=3;a=4;a=5;p=1;"), 1);
        t.isVersions(3, 0);
        t.due("version(15)", t.x.version(P), 1);
        t.due("thrown", t.does("a=9;b=9;throw 1;"), 2);
        t.isVersions(3, 0);
        t.addText(0, "a=9;retry;");
        t.turns(0, 0, 4);
        t.isVersions(3, 0);
        t.isCells(5, 0);
    }

    private static void clients() {
        RunEdgeTest t = new RunEdgeTest("CLIENTS 0 .. 7 have TRANSACTIONS to do, one after the other");
        t.text("a=a*10+1;");
        t.text("a=a*10+2;");
        for (int c = 0; c < 8; c++) {
            t.due("add", t.x.add(c, c % 2), 1);
            t.due("add", t.x.add(c, 1 - c % 2), 2);
        }
        t.turns(7, 0, 1, 0, 1, 5);
        t.isCells(21);
        t.turns(0, 0, 1, 0, 1, 5);
        t.isCells(2112);
        t.isClient(1, 1, 2, 1);
        for (int c : new int[] {-1, 8, LEAST, MOST}) {
            t.due("add", t.x.add(c, 0), NONE);
            t.due("turn", t.x.turn(c), NONE);
            t.due("client", t.x.client(c, 0), NONE);
            t.due("sees", t.x.sees(c, A), 0);
        }
        t = new RunEdgeTest("16 at most with the one that RUNS");
        t.text("if(a=0){retry;}");
        for (int i = 1; i <= 16; i++) {
            t.due("add", t.x.add(0, 0), i);
        }
        t.due("the 17th", t.x.add(0, 0), NONE);
        t.turns(0, 0);
        t.due("with the one that runs", t.x.add(0, 0), NONE);
        t.turns(0, 4);
        t.due("with the one that waits", t.x.add(0, 0), NONE);
        t.x.put(A, 1);
        t.turns(0, 0, 1);
        t.due("behind one that is done", t.x.add(0, 0), 16);
        t.due("the 17th", t.x.add(0, 0), NONE);
        t.due("how many", t.x.client(0, 1), 16);
    }

    private static void beginnings() {
        String s = "A RUN begins with LOCALS 0, nothing READ, nothing WRITTEN: behind one that was ";
        for (String end : new String[] {"", "throw 1;"}) {
            RunEdgeTest t = new RunEdgeTest(s + (end.isEmpty() ? "DONE" : "THROWN"));
            t.addText(0, "q=a+5;z=q;b=q;always 1;" + end);
            t.addText(0, "c=q+z;");
            t.turns(0, 0, 0, 0, 0, end.isEmpty() ? 1 : 2, 0);
            t.isClient(0, 2, 1, 1, 0, 1, 0, 4, 0, 0);
            t.due("sees c", t.x.sees(0, C), 0);
            t.due("sees q", t.x.sees(0, Q), 0);
            t.due("sees z", t.x.sees(0, Z), 0);
        }
        String[] ends = {"r=d;", "retry;"};
        for (int i = 0; i < 2; i++) {
            RunEdgeTest t = new RunEdgeTest(s + (i == 0 ? "CUT" : "WAITS"));
            t.addText(0, "c=q+z;q=a+5;z=q;b=q;always 1;" + ends[i]);
            t.turns(0, 0, 0, 0, 0, 0);
            if (i == 0) {
                t.x.put(A, 1);
                t.turns(0, 3, 0);
            } else {
                t.turns(0, 4);
                t.x.put(A, 1);
                t.turns(0, 0);
            }
            t.isClient(0, 2, 1, 0, i == 0 ? 1 : 0, 1, 0, 4, 0, 0);
            t.due("sees b", t.x.sees(0, B), 0);
            t.due("sees c", t.x.sees(0, C), 0);
            t.due("sees q", t.x.sees(0, Q), 0);
            t.due("sees z", t.x.sees(0, Z), 0);
        }
    }

    private static void steps() {
        RunEdgeTest t = new RunEdgeTest("A TURN of a client does one STEP of its RUN (if none is, that of its first TRANSACTION to do begins, and does its first STEP)");
        t.addText(0, "a=1;b=2;");
        t.isClient(0, 1, 1, 0, 0, 0, 0, 0);
        t.turns(0, 0);
        t.isClient(0, 2, 1, 0, 0, 1, 0, 1);
        t.turns(0, 0);
        t.isClient(0, 2, 1, 0, 0, 2, 0, 3);
        t.turns(0, 1);
        t.isClient(0, 0, 0, NONE, 0, 0, 0, 0);

        t = new RunEdgeTest("if and while (at each time around) just their exp, either and try just go in");
        t.addText(0, "q=2;while(q){q=q-1;}if(q){}else{a=1;}either{b=1;}or{}try{c=1;}catch r{}");
        int[] q = {2, 2, 1, 1, 0, 0, 0, 0, 0, 0, 0, 0};
        int[] written = {0, 0, 0, 0, 0, 0, 0, 1, 1, 3, 3, 7};
        for (int i = 0; i < q.length; i++) {
            t.turns(0, 0);
            t.due("steps", t.x.client(0, 4), i + 1);
            t.due("q", t.x.sees(0, Q), q[i]);
            t.due("written", t.x.client(0, 6), written[i]);
        }
        t.turns(0, 1);
        t.isRow(0, 0, 1, 0, 0, 13, 0);

        String s = "Where a body ends it goes on behind (while: at its exp again) without a STEP";
        done(s, times(8, "if(1){") + times(8, "}") + "a=1;", 10, 1);
        done(s, times(8, "if(1){") + "a=1;" + times(8, "}"), 10, 1);
        done(s, times(8, "either{") + times(8, "}or{}") + "a=1;", 10, 1);
        done(s, "q=2;while(q){q=q-1;if(1){try{either{}or{}}catch r{}}}a=1;", 1 + 2 * 5 + 1 + 2, 1);
        done(s, "q=2;" + times(7, "if(1){") + "while(q){q=q-1;}" + times(7, "}") + "a=1;", 1 + 7 + 5 + 2, 1);
        done(s, "q=2;while(q){if(q){q=q-1;}else{}r=2;while(r){r=r-1;a=a+1;}}", 1 + 2 * (4 + 7) + 2, 4);
        done(s, "if(0){a=1;}else{}b=1;", 3, 0, 1);
        done(s, "if(0){a=1;}b=1;", 3, 0, 1);
        done(s, "if(1){}else{a=1;}b=1;", 3, 0, 1);
        done(s, "while(0){a=1;}b=1;", 3, 0, 1);
        done(s, "q=1;while(q){try{throw 0;}catch q{}}a=1;", 7, 1);
        t = new RunEdgeTest(s + ": of an empty body, too");
        t.addText(0, "c=c+1;if(1){d=d+1;while(c){}}");
        t.turns(0, 0, 0, 0, 0, 0, 0, 0);
        t.isClient(0, 2, 1, 0, 0, 7, 12, 12);
        t.due("sees c", t.x.sees(0, C), 1);
        t.due("sees d", t.x.sees(0, D), 1);
        s = "if and while go by whether their exp is 0";
        done(s, "if(1){a=1;}if(-1){b=1;}if(0){c=1;}", 6, 1, 1, 0);
        done(s, "q=-1;while(q){q=q+1;a=a+1;}", 6, 1);

        t = new RunEdgeTest("Behind the last statement the next STEP is the END");
        t.addText(0, "a=1;");
        t.turns(0, 0);
        t.isCells(0);
        t.isVersions(0);
        t.turns(0, 1);
        t.isCells(1);
        t.isVersions(1);
        done("the END of an empty one", "", 1, 0);
    }

    private static void reading() {
        RunEdgeTest t = new RunEdgeTest("a LOCAL has its value; a CELL is what the RUN has WRITTEN to it, else what it has READ of it, else it is READ");
        t.addText(0, "q=a;a=7;r=a;s=b;t=b;b=s+1;u=b;");
        t.x.put(A, 1);
        t.x.put(B, 2);
        t.turns(0, 0, 0, 0);
        t.due("written", t.x.sees(0, R), 7);
        t.isClient(0, 2, 1, 0, 0, 3, 1, 1);
        t.turns(0, 0);
        t.isClient(0, 2, 1, 0, 0, 4, 3, 1);
        t.x.put(B, 9);
        t.turns(0, 0);
        t.due("read", t.x.sees(0, 19), 2);
        t.turns(0, 0, 0);
        t.due("written", t.x.sees(0, 20), 3);
        t.turns(0, 3);
        t = new RunEdgeTest("what is WRITTEN is not READ");
        t.addText(0, "a=4;b=a+a;");
        t.turns(0, 0);
        t.x.put(A, 5);
        t.turns(0, 0);
        t.due("read", t.x.client(0, 5), 0);
        t.turns(0, 1);
        t.isCells(4, 8);

        String s = "if a CELL that it has READ before has another VERSION now, the RUN is CUT";
        t = new RunEdgeTest(s + ": also with the same value");
        t.addText(0, "q=a;r=b;");
        t.turns(0, 0);
        t.x.put(A, 0);
        t.turns(0, 3);
        t = new RunEdgeTest(s + ": not when no other CELL is READ");
        t.addText(0, "q=a;r=a+q;c=1;s=c;always b;either{}or{}if(a){}r=b;");
        t.turns(0, 0);
        t.x.put(A, 3);
        t.turns(0, 0, 0, 0, 0, 0, 0);
        t.isClient(0, 2, 1, 0, 0, 7, 1, 4);
        t.turns(0, 3);
        t.isClient(0, 1, 1, 0, 1, 0, 0, 0);
        t = new RunEdgeTest(s + ": of any that was READ, in if, while, throw");
        for (String read : new String[] {"if(p){}", "while(p){}", "throw p;", "z=p;"}) {
            for (String first : new String[] {"q=a+b+c;", "if(a*b*c){}", "q=a;q=b;q=c;"}) {
                for (int cell = 0; cell < 3; cell++) {
                    RunEdgeTest u = new RunEdgeTest(s);
                    u.addText(0, first + read);
                    for (int i = first.length() > 11 ? 3 : 1; i > 0; i--) {
                        u.turns(0, 0);
                    }
                    u.x.put(cell, 0);
                    u.turns(0, 3);
                }
            }
        }
        t = new RunEdgeTest("else its value and VERSION now are READ");
        t.addText(0, "q=a;r=b;s=c;");
        t.turns(0, 0);
        t.x.put(B, 5);
        t.turns(0, 0);
        t.due("the value now", t.x.sees(0, R), 5);
        t.x.put(P, 1);
        t.turns(0, 0);
        t.due("read", t.x.client(0, 5), 7);
        t.x.put(B, 5);
        t.turns(0, 3);
        t = new RunEdgeTest("(From the left to the right; what stands ahead of it in the exp is READ by then.)");
        t.addText(0, "try{q=a+b*c+1/d;}catch r{}");
        t.turns(0, 0, 0);
        t.due("read", t.x.client(0, 5), 15);
        t.due("thrown", t.x.sees(0, R), -1);
        t.x.put(C, 1);
        t.turns(0, 3);
    }

    private static void cuts() {
        RunEdgeTest t = new RunEdgeTest("CUT: the RUN is over, its TRANSACTION begins anew with the next TURN; nothing of it stays");
        t.addText(0, "q=a+1;c=5;always 1;r=b;");
        t.turns(0, 0, 0, 0);
        t.x.put(A, 8);
        t.turns(0, 3);
        t.isClient(0, 1, 1, 0, 1, 0, 0, 0, 0, 0);
        t.due("sees c", t.x.sees(0, C), 0);
        t.due("sees q", t.x.sees(0, Q), 0);
        t.due("sees a", t.x.sees(0, A), 8);
        t.isVersions(1, 0, 0);
        t.turns(0, 0);
        t.due("sees q", t.x.sees(0, Q), 9);
        t.turns(0, 0, 0, 0, 1);
        t.isRow(1, 0, 1, 0, 0, 5, 1);
        t.due("rules", t.x.rules(), 1);

        t = new RunEdgeTest("When it is CUT for the fourth time, or again (for the same to do), the client is URGENT");
        t.addText(0, "b=a;");
        for (int i = 1; i <= 6; i++) {
            t.turns(0, 0);
            t.due("urgent in its run", t.x.client(0, 7), i > 4 ? 1 : 0);
            t.x.put(A, i);
            t.turns(0, 3);
            t.isClient(0, 1, 1, 0, i, 0, 0, 0, i >= 4 ? 1 : 0);
        }
        t = new RunEdgeTest("(for the same to do): a next one begins with none");
        t.text("b=a;");
        t.x.add(0, 0);
        t.x.add(0, 0);
        t.x.add(0, 0);
        for (int k = 0; k < 2; k++) {
            for (int i = 1; i <= 3; i++) {
                t.turns(0, 0);
                t.x.put(A, i);
                t.turns(0, 3);
            }
            t.turns(0, 0, 1);
            t.isClient(0, 1, 2 - k, 0, 0, 0, 0, 0, 0);
        }
        t.isRow(3, 0, 1, 0, 0, 2, 3);
        t.isRow(7, 0, 1, 0, 0, 2, 3);
        String[] ends = {"", "throw 1;"};
        for (int i = 0; i < 2; i++) {
            t = new RunEdgeTest("till that is over: " + (i == 0 ? "DONE" : "THROWN"));
            t.addText(0, "b=a;" + ends[i]);
            t.x.add(0, 0);
            t.addText(1, "c=1;");
            for (int k = 1; k <= 4; k++) {
                t.turns(0, 0);
                t.x.put(A, k);
                t.turns(0, 3);
            }
            t.turns(1, 0, 6);
            t.turns(0, 0, 1 + i);
            t.isClient(0, 1, 1, 0, 0, 0, 0, 0, 0);
            t.turns(1, 1);
            t.isRow(4, i, 1 + i, 0, 0, 2, 4);
        }
        new RunEdgeTest("till that .. WAITS").urgentTillItWaits();
    }

    private void urgentTillItWaits() {
        addText(0, "if(a<9){retry;}");
        addText(1, "c=1;");
        for (int i = 1; i <= 4; i++) {
            turns(0, 0);
            x.put(A, i);
            turns(0, 3);
        }
        turns(1, 0, 6);
        turns(0, 0, 4);
        isClient(0, 3, 1, 0, 4, 0, 1, 0, 0);
        turns(1, 1);
        x.put(A, 5);
        turns(0, 0);
        due("a run that begins anew is not urgent", x.client(0, 7), 0);
        x.put(A, 6);
        turns(0, 3);
        isClient(0, 1, 1, 0, 5, 0, 0, 0, 1);
    }

    private static void throwing() {
        String s = "THROWN is the value of a throw, -1 by / or % by 0";
        thrown(s, "throw 5;", 5, 1);
        thrown(s, "throw 0;", 0, 1);
        thrown(s, "a=1;throw -7*a;", -7, 2);
        for (String by : new String[] {"1/0", "1%0", "0/0", "0%0", "1/q", "2%(3-3)", "-(4/b)", "1+2*3%a", "(1/0)*0", "0*(1%0)"}) {
            thrown(s, "a=" + by.replace('a', 'p') + ";", -1, 1);
            thrown(s, "if(" + by + "){}", -1, 1);
            thrown(s, "while(" + by + "){}", -1, 1);
            thrown(s, "throw " + by + ";", -1, 1);
        }
        s = "It goes to the innermost try";
        done(s, "try{try{throw 3;}catch q{a=q;}b=1;}catch r{c=r;}", 6, 3, 1, 0);
        done(s, "try{if(1){either{while(1){throw 3;}}or{}}}catch q{a=q;}", 7, 3);
        s = "whose first body it is in";
        thrown(s, "try{throw 1;}catch q{throw q+1;}", 2, 3);
        thrown(s, "try{}catch q{}throw 4;", 4, 2);
        done(s, "try{try{throw 1;}catch q{throw q+1;}}catch r{a=r;}", 6, 2);
        done(s, "try{throw 1;}catch q{try{throw 2;}catch r{a=q;b=r;}}", 7, 1, 2);
        thrown(s, "if(1){try{a=1;}catch q{}}else{}throw 1/0;", -1, 4);
        s = "all is as it was when that try went in (WRITTEN, LOCALS, always)";
        done(s, "a=1;q=2;r=3;try{a=5;b=6;q=7;r=8;always 0;throw 9;}catch r{}c=q;d=r;", 13, 1, 0, 2, 9);
        RunEdgeTest t = new RunEdgeTest(s);
        t.addText(0, "a=1;always 1;q=4;try{a=2;b=3;q=5;always 0;always 0;throw 1;}catch r{}");
        t.turns(0, 0, 0, 0, 0, 0, 0, 0, 0, 0);
        t.isClient(0, 2, 1, 0, 0, 9, 0, 3, 0, 3);
        t.turns(0, 0);
        t.isClient(0, 2, 1, 0, 0, 10, 0, 1, 0, 1);
        t.due("sees a", t.x.sees(0, A), 1);
        t.due("sees b", t.x.sees(0, B), 0);
        t.due("sees q", t.x.sees(0, Q), 4);
        t.turns(0, 1);
        t.due("rules", t.x.rules(), 1);
        t.isVersions(1, 0);
        s = "when that try went in: each time anew";
        done(s, "q=2;while(q){q=q-1;a=a+1;try{a=a+10;throw 1;}catch r{b=b+r;}}", 1 + 2 * 7 + 2, 2, 2);
        t = new RunEdgeTest("but for what is READ");
        t.addText(0, "try{b=a;throw 1;}catch q{}");
        t.turns(0, 0, 0, 0);
        t.isClient(0, 2, 1, 0, 0, 3, 1, 0);
        t.x.put(A, 0);
        t.turns(0, 3);
        s = "the LOCAL has the value, and the second body is next";
        done(s, "try{throw -5;}catch z{a=z;}b=z;", 5, -5, -5);
        done(s, "q=1;try{q=2;throw q;}catch q{a=q;}", 6, 2);
        done(s, "try{throw 6;}catch q{}a=q;", 4, 6);
        t = new RunEdgeTest("THROWN that goes to a try is no end: not CUT, not HELD");
        t.addText(1, "try{q=a;throw 1;}catch r{}b=r;");
        t.makeUrgent();
        t.turns(1, 0, 0);
        t.x.put(A, 0);
        t.turns(1, 0, 0, 3);
        t.due("sees nothing", t.x.sees(1, B), 0);
    }

    private static void tooLong() {
        String s = "The 301st STEP of a RUN (the END, too) throws -3 in place of what it would do";
        thrown(s, STEPS_300, -3, 301);
        done("the 300th STEP of a RUN may be the END", STEPS_299, 300, 0);
        thrown(s, STEPS_300 + "throw 5;", -3, 301);
        thrown("the 300th STEP of a RUN may throw", STEPS_299 + "throw 5;", 5, 300);
        thrown(s, STEPS_300 + "retry;", -3, 301);
        thrown(s, STEPS_300 + "a=1/0;", -3, 301);
        thrown(s, STEPS_300 + "a=1;", -3, 301);
        thrown(s, STEPS_300 + "always 1;", -3, 301);
        thrown(s, STEPS_300 + "try{}catch r{}", -3, 301);
        thrown(s, STEPS_299 + "a=1;b=2;", -3, 301);
        thrown(s, "while(1){}", -3, 301);
        RunEdgeTest t = new RunEdgeTest("the 300th STEP of a RUN may wait");
        t.due("waits", t.does(STEPS_299 + "retry;"), 4);
        t.isClient(0, 3, 1, 0, 0, 0, 0, 0, 0, 0);
        s = "past all trys";
        thrown(s, "try{" + STEPS_299 + "a=1;}catch s{b=1;}", -3, 301);
        thrown(s, "try{" + STEPS_299 + "throw 5;}catch s{b=1;}", -3, 301);
        thrown(s, "either{" + STEPS_299 + "retry;}or{b=1;}", -3, 301);
        t = new RunEdgeTest("in place of what it would do: nothing is READ");
        t.addText(0, STEPS_300 + "b=a;");
        t.manyTurns(0, 300);
        t.isClient(0, 2, 1, 0, 0, 300, 0, 0, 0, 0);
        t.turns(0, 2);
        t = new RunEdgeTest("Ahead of .. THROWN that ends it: of -3, too");
        t.addText(0, "r=a;r=1;q=148;while(q){q=q-1;}");
        t.manyTurns(0, 300);
        t.x.put(A, 0);
        t.turns(0, 3);
        t.isClient(0, 1, 1, 0, 1, 0, 0, 0, 0, 0);
        t.turns(0, 0);
        t.due("its STEPS begin anew", t.x.client(0, 4), 1);
        t = new RunEdgeTest("the TURN is HELD: the 301st STEP, too");
        t.addText(1, STEPS_300);
        t.manyTurns(1, 300);
        t.makeUrgent();
        t.turns(1, 6, 6);
        t.isClient(1, 2, 1, 0, 0, 300);
        t.x.clear();
        t.isClient(1, 0, 0, NONE, 0, 0);
    }

    private static void retrying() {
        String s = "RETRY goes to the innermost either whose first body it is in";
        done(s, "either{either{retry;}or{a=1;}b=1;}or{c=1;}", 6, 1, 1, 0);
        done(s, "either{if(1){try{while(1){retry;}}catch q{c=1;}}}or{a=1;}", 7, 1, 0, 0);
        done(s, "either{either{retry;}or{retry;}b=1;}or{a=1;}", 6, 1, 0);
        done(s, "either{try{throw 1;}catch q{retry;}}or{a=1;}", 6, 1);
        RunEdgeTest t = new RunEdgeTest(s + ": not the second");
        t.due("waits", t.does("either{retry;}or{retry;}"), 4);
        t = new RunEdgeTest(s + ": not behind it");
        t.due("waits", t.does("either{}or{}retry;"), 4);
        s = "all is as it was when that went in";
        done(s, "a=1;q=2;either{a=5;b=6;q=7;always 0;retry;}or{c=q;}", 10, 1, 0, 2);
        t = new RunEdgeTest(s);
        t.addText(0, "a=1;always 1;q=4;either{a=2;b=3;q=5;always 0;always 0;retry;}or{}");
        t.turns(0, 0, 0, 0, 0, 0, 0, 0, 0, 0);
        t.isClient(0, 2, 1, 0, 0, 9, 0, 3, 0, 3);
        t.turns(0, 0);
        t.isClient(0, 2, 1, 0, 0, 10, 0, 1, 0, 1);
        t.due("sees a", t.x.sees(0, A), 1);
        t.due("sees q", t.x.sees(0, Q), 4);
        t.turns(0, 1);
        t.isVersions(1, 0);
        t.due("rules", t.x.rules(), 1);
        s = "either and try within one another go back to their own beginnings";
        done(s, "a=1;either{a=2;try{a=3;throw 0;}catch q{b=a;}retry;}or{c=a;}", 10, 1, 0, 1);
        done(s, "a=1;try{a=2;either{a=3;retry;}or{b=a;}throw 1;}catch q{c=a;}", 10, 1, 0, 1);
        done(s, "either{a=1;either{a=2;either{a=3;retry;}or{b=a;retry;}}or{c=a;retry;}}or{d=a;}", 13, 0, 0, 0, 0);
        done(s, "either{a=1;either{a=2;either{a=3;retry;}or{b=a;}}or{}}or{}", 9, 2, 2);
        t = new RunEdgeTest("but for what is READ");
        t.addText(0, "either{b=a;retry;}or{}");
        t.turns(0, 0, 0, 0);
        t.isClient(0, 2, 1, 0, 0, 3, 1, 0);
        t.x.put(A, 0);
        t.turns(0, 3);
        t = new RunEdgeTest("RETRY that goes to an either is no end: not CUT");
        t.addText(0, "either{q=a;retry;}or{b=1;}");
        t.turns(0, 0, 0);
        t.x.put(A, 0);
        t.turns(0, 0, 0, 3);
    }

    private static void waiting() {
        RunEdgeTest t = new RunEdgeTest("the RUN WAITS: it is over, nothing of it stays but which CELLS it has READ, of which VERSIONS");
        t.addText(0, "q=a+p+1;b=q;always 1;retry;");
        t.turns(0, 0, 0, 0, 4);
        t.isClient(0, 3, 1, 0, 0, 0, 1 + (1 << P), 0, 0, 0);
        t.due("sees b", t.x.sees(0, B), 0);
        t.due("sees q", t.x.sees(0, Q), 0);
        t.due("rows", t.x.rows(), 0);
        t = new RunEdgeTest("WAITING: at a TURN, if none of these has another VERSION now, nothing is done");
        t.addText(0, "c=1;if(a=b){retry;}");
        t.turns(0, 0, 0, 4, 4, 4);
        for (int cell = 2; cell < 16; cell++) {
            t.x.put(cell, 1);
        }
        t.turns(0, 4);
        t.isClient(0, 3, 1, 0, 0, 0, 3, 0, 0, 0);
        for (int cell = 0; cell < 2; cell++) {
            t = new RunEdgeTest("else the TRANSACTION begins anew, and does its first STEP");
            t.addText(0, "c=1;if(a=b){retry;}");
            t.turns(0, 0, 0, 4);
            t.x.put(cell, 0);
            t.turns(0, 0);
            t.isClient(0, 2, 1, 0, 0, 1, 0, 4, 0, 0);
            t.turns(0, 0, 4, 4);
            t.x.put(cell, 1);
            t.turns(0, 0, 0, 1);
        }
        t = new RunEdgeTest("else the TRANSACTION begins anew: by another client's writing, behind its END");
        t.addText(0, "if(a=0){retry;}");
        t.turns(0, 0, 4);
        t.addText(1, "a=0;");
        t.turns(1, 0);
        t.turns(0, 4);
        t.turns(1, 1);
        t.turns(0, 0, 4);
        t = new RunEdgeTest("and does its first STEP: which may be its last");
        t.x.put(P, 1);
        t.addText(0, "q=1/p;retry;");
        t.turns(0, 0, 4);
        t.x.put(P, 0);
        t.turns(0, 2);
        t.isRow(2, -1, 2, 0, 0, 1, 0);
        t = new RunEdgeTest("WAITING that has READ nothing");
        t.addText(0, "a=1;retry;");
        t.turns(0, 0, 4);
        for (int cell = 0; cell < 16; cell++) {
            t.x.put(cell, 1);
        }
        t.turns(0, 4);
        t = new RunEdgeTest("WAITING for all that was READ, also ahead of what was undone");
        t.addText(0, "either{try{q=a/0;}catch r{}if(b=0){retry;}}or{if(c=0){retry;}}");
        t.turns(0, 0, 0, 0, 0, 0, 0, 4);
        t.due("read", t.x.client(0, 5), 7);
        t.x.put(A, 0);
        t.turns(0, 0);
    }

    private static void cutInstead() {
        String s = "Ahead of an END, of THROWN that ends it, of WAITS: if a CELL that is READ has another VERSION now: CUT instead";
        String[] ends = {"", "throw 1;", "z=1/0;", "retry;"};
        int[] answers = {1, 2, 2, 4};
        for (int i = 0; i < ends.length; i++) {
            RunEdgeTest t = new RunEdgeTest(s);
            t.addText(0, "q=a;b=1;" + ends[i]);
            t.turns(0, 0, 0);
            t.x.put(A, 0);
            t.turns(0, 3);
            t.isClient(0, 1, 1, 0, 1, 0, 0, 0, 0, 0);
            t.due("rows", t.x.rows(), 1);
            t.turns(0, 0, 0);
            t.x.put(B, 5);
            t.turns(0, answers[i]);
        }
        RunEdgeTest t = new RunEdgeTest("CUT instead: by another client");
        t.addText(0, "a=a+1;");
        t.addText(1, "a=a+1;");
        t.turns(0, 0);
        t.turns(1, 0, 1);
        t.turns(0, 3, 0, 1);
        t.isCells(2);
        t.isVersions(2);
    }

    private static void held() {
        String s = "if some other client is URGENT and this one is not, the TURN is HELD: nothing is done, the STEP stays the next one";
        RunEdgeTest t = new RunEdgeTest(s);
        t.addText(1, "c=1;");
        t.addText(2, "d=1;throw 5;");
        t.addText(3, "d=1;d=1/0;");
        for (int c = 1; c <= 3; c++) {
            t.turns(c, 0);
        }
        t.makeUrgent();
        int rows = t.x.rows();
        for (int c = 1; c <= 3; c++) {
            t.turns(c, 6, 6, 6);
            t.isClient(c, 2, 1, c - 1, 0, 1, 0, c == 1 ? 4 : 8, 0, 0);
        }
        t.due("rows", t.x.rows(), rows);
        t.isVersions(4, 0, 0, 0);
        t.turns(0, 0, 1);
        t.turns(1, 1);
        t.turns(2, 2);
        t.turns(3, 2);
        t.isRow(rows + 1, 0, 1, 1, 0, 2, 0);
        t.isRow(rows + 2, 5, 2, 2, 1, 2, 0);
        t.isRow(rows + 3, -1, 2, 3, 2, 2, 0);

        t = new RunEdgeTest("HELD: Ahead of an END or THROWN alone: a STEP and WAITS are not");
        t.makeUrgent();
        t.addText(1, "c=1;if(c){retry;}");
        t.turns(1, 0, 0, 4, 4);
        t = new RunEdgeTest("some other client is URGENT and this one is not: an URGENT one is not HELD");
        t.makeUrgent();
        t.x.add(7, 0);
        t.x.add(3, 0);
        for (int i = 1; i <= 4; i++) {
            t.turns(7, 0);
            t.x.put(A, i);
            t.turns(7, 3);
        }
        t.turns(3, 0, 6);
        t.turns(7, 0, 1);
        t.turns(3, 6);
        t.turns(0, 0, 1);
        t.turns(3, 1);
        t = new RunEdgeTest("behind that: CUT comes ahead of HELD");
        t.addText(1, "q=c;");
        t.addText(2, "q=c;throw 1;");
        t.turns(1, 0);
        t.turns(2, 0);
        t.makeUrgent();
        t.turns(1, 6);
        t.x.put(C, 0);
        t.turns(1, 3);
        t.turns(2, 3);
        t = new RunEdgeTest("HELD: nothing is done: what would be THROWN by a RULE, too");
        t.addText(1, "c=1;always 0;");
        t.turns(1, 0, 0);
        t.makeUrgent();
        t.turns(1, 6);
        t.isClient(1, 2, 1, 0, 0, 2, 0, 4, 0, 1);
        new RunEdgeTest("HELD: nothing is done: a RUN that would begin and end").heldAtFirst();
        new RunEdgeTest("(of THROWN: the statement that throws, worked anew then)").workedAnew();
    }

    private void heldAtFirst() {
        makeUrgent();
        addText(1, "");
        addText(2, "throw c;");
        turns(1, 6, 6);
        turns(2, 6, 6);
        isClient(1, 1, 1, 1, 0, 0, 0, 0, 0, 0);
        isClient(2, 1, 1, 2, 0, 0, 0, 0, 0, 0);
        x.put(C, 9);
        turns(0, 0, 1);
        turns(2, 2);
        due("thrown", x.value(x.rows() - 1), 9);
        turns(1, 1);
        due("steps", x.row(x.rows() - 1, 3), 1);
    }

    private void workedAnew() {
        makeUrgent();
        addText(1, "q=1;throw c;");
        addText(2, "q=6/d;c=q;");
        turns(1, 0, 6);
        due("nothing is done: read", x.client(1, 5), 0);
        turns(2, 6);
        x.put(C, 4);
        x.put(D, 3);
        turns(1, 6);
        turns(2, 0);
        due("what threw does not throw now", x.sees(2, Q), 2);
        turns(0, 0, 1);
        turns(1, 2);
        due("thrown", x.value(x.rows() - 1), 4);
    }

    private static void rules() {
        String s = "the first one that is 0, or has / or % by 0: THROWN -2 instead (past all trys; nothing of it stays)";
        thrown(s, "a=1;always 0;", -2, 3);
        thrown(s, "a=1;always a=2;b=3;", -2, 4);
        thrown(s, "always 1/a;", -2, 2);
        thrown(s, "always 1%(a+b);", -2, 2);
        thrown(s, "always 1;always 2;always 0;", -2, 4);
        thrown(s, "always 0;always 1;", -2, 3);
        thrown(s, "try{a=1;always 0;}catch q{b=1;}", -2, 4);
        thrown(s, "try{always 1/0;}catch q{b=1;}", -2, 3);
        thrown(s, "either{always 0;}or{a=1;}", -2, 3);
        RunEdgeTest t = new RunEdgeTest("all RULES .. are worked with the CELLS as they would be then");
        t.due("a rule", t.does("always a<b+1;"), 1);
        t.due("against it", t.does("a=1;"), 2);
        t.due("with both", t.does("a=1;b=1;"), 1);
        t.due("for a while against it", t.does("a=5;a=1;"), 1);
        t.due("put against it", t.x.put(B, 0), -2);
        t.due("its own, written later", t.does("always c=3;c=3;"), 1);
        t.due("its own, of cells as they are", t.does("always a=1;"), 1);
        t.due("rules", t.x.rules(), 3);
        t.due("against the second", t.does("c=4;"), 2);
        t.due("against the third", t.does("a=0;"), 2);
        t.due("replays", t.x.replays(), 1);
        t = new RunEdgeTest("(those there are, ..): a RULE that came since the RUN began");
        t.addText(0, "a=5;");
        t.addText(1, "always a=0;");
        t.turns(0, 0);
        t.turns(1, 0, 1);
        t.turns(0, 2);
        t.isRow(1, -2, 2, 0, 0, 2, 0);
        t = new RunEdgeTest("a RULE is any number but 0");
        t.due("-1", t.does("always -1;always a-1;always 5;"), 1);
        t.due("put", t.x.put(A, 1), -2);
        t.due("put", t.x.put(A, 2), 1);
        t = new RunEdgeTest("THROWN by a RULE: a RULE's letters are not READ");
        t.due("done", t.does("always a+b+c+1;"), 1);
        t.addText(1, "d=1;");
        t.turns(1, 0);
        t.x.put(A, 1);
        t.turns(1, 1);

        t = new RunEdgeTest("(their VERSIONS grow, also for the same value)");
        t.due("done", t.does("a=0;b=b;c=1;c=0;"), 1);
        t.isCells(0, 0, 0, 0);
        t.isVersions(1, 1, 1, 0);
        t = new RunEdgeTest("what is WRITTEN comes into the CELLS at once");
        t.addText(0, "a=1;b=2;p=3;");
        t.turns(0, 0, 0, 0);
        t.isCells(0, 0);
        t.turns(0, 1);
        t.isCells(1, 2);
        t.due("cell(15)", t.x.cell(P), 3);
        mostRules();
    }

    private static void mostRules() {
        String s = "(32 at most: the 33rd: THROWN -2)";
        RunEdgeTest t = new RunEdgeTest(s);
        t.due("32 of one", t.does("q=32;while(q){always 1;q=q-1;}"), 1);
        t.due("rules", t.x.rules(), 32);
        t.due("the 33rd", t.does("a=1;always 1;"), 2);
        t.isRow(1, -2, 2, 0, 1, 3, 0);
        t.due("rules", t.x.rules(), 32);
        t.isCells(0);
        t.due("without one more", t.does("a=1;"), 1);
        t.due("replays", t.x.replays(), 1);
        t = new RunEdgeTest(s);
        t.due("33 of one", t.does("q=33;while(q){always 1;q=q-1;}"), 2);
        t.due("value", t.x.value(0), -2);
        t.due("rules", t.x.rules(), 0);
        t.due("31 of one", t.does("q=31;while(q){always 1;q=q-1;}"), 1);
        t.due("two more", t.does("always 1;always 1;"), 2);
        t.due("rules", t.x.rules(), 31);
        t.due("one more", t.does("always p<1;"), 1);
        t.due("rules", t.x.rules(), 32);
        t.due("the 32nd holds", t.x.put(P, 1), -2);
        t = new RunEdgeTest("what a try took back is no RULE: 33 walked, 32 left");
        t.due("done", t.does("try{always 0;throw 1;}catch r{}q=32;while(q){always 1;q=q-1;}"), 1);
        t.due("rules", t.x.rules(), 32);
    }

    public static void main(String[] args) {
        cellsAndVersions();
        clients();
        beginnings();
        steps();
        reading();
        cuts();
        throwing();
        tooLong();
        retrying();
        waiting();
        cutInstead();
        held();
        rules();
        finish();
    }
}
