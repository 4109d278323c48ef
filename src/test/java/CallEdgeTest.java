import java.util.ArrayList;
import java.util.List;

/** The edges of chapter 3 (ROWS) and of the promises 7 to 20: each test bears the sentence of the document that names the edge. */
public final class CallEdgeTest extends Bench {
    private static final int[] NO_CELLS = {-1, 16, 17, 25, LEAST, MOST};
    private static final int[] NO_CLIENTS = {-1, 8, 9, LEAST, MOST};

    private CallEdgeTest(String sentence) {
        super(sentence);
    }

    private static void put() {
        CallEdgeTest t = new CallEdgeTest("Promise 7: A CELL (0 .. 15) becomes v, from outside: its VERSION");
        for (int cell = 0; cell < 16; cell++) {
            t.due("put", t.x.put(cell, cell - 8), 1);
        }
        for (int cell = 0; cell < 16; cell++) {
            t.due("cell", t.x.cell(cell), cell - 8);
            t.due("the same again", t.x.put(cell, cell - 8), 2);
            t.due("version", t.x.version(cell), 2);
        }
        t.due("least", t.x.put(A, Long.MIN_VALUE), 3);
        t.due("least", t.x.cell(A), Long.MIN_VALUE);
        t.due("most", t.x.put(P, Long.MAX_VALUE), 3);
        t.due("most", t.x.cell(P), Long.MAX_VALUE);
        t.due("rows", t.x.rows(), 34);

        t = new CallEdgeTest("Promise 7: NONE: none such");
        for (int cell : NO_CELLS) {
            t.due("put(" + cell + ")", t.x.put(cell, 5), NONE);
        }
        t.due("rows", t.x.rows(), 0);
        t.isCells(new long[16]);
        t.isVersions(new int[16]);

        t = new CallEdgeTest("Promise 7: NONE: there are 300 ROWS");
        t.addText(0, "always a<5;");
        t.turns(0, 0, 1);
        t.putRows(299);
        t.due("the 300th", t.x.put(A, 4), 1);
        t.due("the 301st", t.x.put(A, 4), NONE);
        t.due("the 301st, of the same", t.x.put(P, 298), NONE);
        t.due("the 301st, against a RULE", t.x.put(A, 5), NONE);
        t.isCells(4);
        t.isVersions(1);
        t.due("rows", t.x.rows(), 300);

        t = new CallEdgeTest("Promise 7: -2: a RULE would not hold (nothing is done)");
        t.x.put(B, 3);
        t.addText(0, "always a<5;always 6/b;always 5%b;");
        t.turns(0, 0, 0, 0, 1);
        t.due("the first", t.x.put(A, 5), -2);
        t.due("the second, by 0", t.x.put(B, 0), -2);
        t.due("the second, 0", t.x.put(B, 7), -2);
        t.due("the third, 0", t.x.put(B, 5), -2);
        t.isCells(0, 3);
        t.isVersions(0, 1);
        t.due("rows", t.x.rows(), 2);
        t.due("none such, with RULES", t.x.put(16, 5), NONE);
        t.due("at its edge", t.x.put(A, 4), 1);
        t.due("another", t.x.put(B, 2), 2);
        t.due("replays", t.x.replays(), 1);
    }

    private static void cells() {
        CallEdgeTest t = new CallEdgeTest("Promise 8: A CELL's value; 0 of none such");
        for (int cell = 0; cell < 16; cell++) {
            t.x.put(cell, 1L << 40 + cell);
        }
        for (int cell = 0; cell < 16; cell++) {
            t.due("cell(" + cell + ")", t.x.cell(cell), 1L << 40 + cell);
        }
        for (int cell : NO_CELLS) {
            t.due("cell(" + cell + ")", t.x.cell(cell), 0);
        }
        t = new CallEdgeTest("Promise 9: A CELL's VERSION. NONE");
        for (int cell = 0; cell < 16; cell++) {
            for (int i = 0; i <= cell; i++) {
                t.x.put(cell, 0);
            }
        }
        for (int cell = 0; cell < 16; cell++) {
            t.due("version(" + cell + ")", t.x.version(cell), cell + 1);
        }
        for (int cell : NO_CELLS) {
            t.due("version(" + cell + ")", t.x.version(cell), NONE);
        }
    }

    private static void add() {
        CallEdgeTest t = new CallEdgeTest("Promise 10: NONE: none such client, TRANSACTION");
        t.due("without a text", t.x.add(0, 0), NONE);
        t.text("a=1;");
        t.text("a=");
        for (int client : NO_CLIENTS) {
            t.due("add(" + client + ", 0)", t.x.add(client, 0), NONE);
        }
        for (int transaction : new int[] {-1, 1, 11, 12, LEAST, MOST}) {
            t.due("add(0, " + transaction + ")", t.x.add(0, transaction), NONE);
        }
        for (int c = 0; c < 8; c++) {
            t.isClient(c, 0, 0, NONE);
        }
        t.due("add(7, 0)", t.x.add(7, 0), 1);
        for (int i = 1; i < 12; i++) {
            t.text("");
        }
        t.due("add(7, 11)", t.x.add(7, 11), 2);
        t = new CallEdgeTest("Promise 10: how many then (with the one that RUNS or WAITS)");
        t.text("if(a=0){retry;}");
        t.due("add", t.x.add(0, 0), 1);
        t.turns(0, 0);
        t.due("with the one that runs", t.x.add(0, 0), 2);
        t.turns(0, 4);
        t.due("with the one that waits", t.x.add(0, 0), 3);
        t.x.put(A, 1);
        t.turns(0, 0, 1);
        t.due("behind its end", t.x.add(0, 0), 3);
        t = new CallEdgeTest("Promise 10: NONE: .. there are 16");
        t.text("");
        for (int c = 0; c < 8; c++) {
            for (int i = 1; i <= 16; i++) {
                t.due("add", t.x.add(c, 0), i);
            }
            t.due("the 17th", t.x.add(c, 0), NONE);
            t.due("how many", t.x.client(c, 1), 16);
        }
        t.turns(3, 1);
        t.due("one less", t.x.add(3, 0), 16);
        t.due("the 17th", t.x.add(3, 0), NONE);
        for (int i = 0; i < 16; i++) {
            t.turns(3, 1);
        }
        t.turns(3, 5);
    }

    private static void turn() {
        String s = "Promise 11: ";
        CallEdgeTest t = new CallEdgeTest(s + "NONE: none such client");
        for (int client : NO_CLIENTS) {
            t.due("turn(" + client + ")", t.x.turn(client), NONE);
        }
        t = new CallEdgeTest(s + "5 it has nothing to do");
        t.text("");
        for (int c = 0; c < 8; c++) {
            t.turns(c, 5);
            t.x.add(c, 0);
            t.turns(c, 1, 5);
        }
        t.due("rows", t.x.rows(), 8);
        t = new CallEdgeTest(s + "4 it WAITS (also: goes on waiting)");
        t.addText(0, "retry;");
        t.turns(0, 4, 4, 4);

        t = new CallEdgeTest(s + "it would be DONE, THROWN, and there are 300 ROWS (nothing is done)");
        t.addText(0, "a=1;");
        t.addText(1, "c=1;throw 7;");
        t.addText(2, "c=2;z=1/b;");
        t.addText(3, "c=3;always 0;");
        t.addText(4, "d=1;");
        t.turns(0, 0);
        t.turns(1, 0);
        t.turns(2, 0);
        t.turns(3, 0, 0);
        t.turns(4, 0);
        t.putRows(299);
        t.turns(4, 1);
        t.due("rows", t.x.rows(), 300);
        for (int c = 0; c < 4; c++) {
            t.turns(c, NONE, NONE);
            t.isClient(c, 2, 1, c, 0, c == 3 ? 2 : 1, 0, c == 0 ? 1 : 4, 0, c == 3 ? 1 : 0);
        }
        t.isVersions(0, 0, 0, 1);
        t.due("rows", t.x.rows(), 300);
        t.due("rules", t.x.rules(), 0);
        t.due("row(300, 0)", t.x.row(300, 0), NONE);
        t.due("row(299, 0)", t.x.row(299, 0), 1);
        t.due("value(300)", t.x.value(300), 0);
        t.due("replays", t.x.replays(), 1);
        otherTurnsWith300Rows();
        thrownWith300Rows();
    }

    private static void otherTurnsWith300Rows() {
        CallEdgeTest t = new CallEdgeTest("Promise 11: with 300 ROWS a STEP, CUT, WAITS and nothing to do are as ever");
        t.addText(0, "q=a;r=b;");
        t.addText(1, "if(a){retry;}else{retry;}");
        t.addText(2, "");
        t.addText(3, "try{throw 1;}catch q{}");
        t.turns(0, 0);
        t.putRows(299);
        t.x.put(A, 1);
        t.turns(0, 3);
        t.isClient(0, 1, 1, 0, 1, 0, 0, 0, 0);
        t.turns(0, 0, 0, NONE);
        t.turns(1, 0, 4, 4);
        t.turns(2, NONE);
        t.isClient(2, 1, 1, 2, 0, 0, 0, 0, 0, 0);
        t.turns(3, 0, 0, NONE);
        t.turns(4, 5);
        t.due("play", t.x.play(3, 2000), 0);
        t.due("rows", t.x.rows(), 300);
        t = new CallEdgeTest("Promise 11: with 300 ROWS, HELD comes ahead: it would not be DONE");
        t.makeUrgent();
        t.addText(1, "c=1;");
        t.turns(1, 0);
        t.putRows(300);
        t.turns(1, 6);
        t.turns(0, 0, NONE);
        t.isClient(0, 2, 1, 0, 4, 1, 1, 2, 1);
        t.turns(1, 6);
    }

    private static void thrownWith300Rows() {
        CallEdgeTest t = new CallEdgeTest("Promise 11: (nothing is done): a RUN that would begin and be THROWN");
        t.addText(0, "throw b;");
        t.putRows(300);
        t.turns(0, NONE, NONE);
        t.isClient(0, 1, 1, 0, 0, 0, 0, 0, 0, 0);
        t.due("clear", t.x.clear(), 300);
        t.x.add(0, 0);
        t.turns(0, 2);
        t.due("rows", t.x.rows(), 1);
    }

    private static long next(long s) {
        return 6364136223846793005L * s + 1442695040888963407L;
    }

    /** The seed whose first draw is s: 6364136223846793005 is odd, so each number is drawn by one. */
    private static long seedOf(long s) {
        long inverse = 1;
        for (int i = 0; i < 6; i++) {
            inverse *= 2 - 6364136223846793005L * inverse;
        }
        return (s - 1442695040888963407L) * inverse;
    }

    private static void play() {
        CallEdgeTest t = new CallEdgeTest("Promise 12: the client being the highest 3 bits of s");
        t.text("");
        for (int c = 0; c < 8; c++) {
            long low = (long) c << 61;
            for (long s : new long[] {low, low + (1L << 61) - 1}) {
                t.due("the seed", next(seedOf(s)), s);
                t.x.add(c, 0);
                t.due("play", t.x.play(seedOf(s), 1), 1);
                t.due("client", t.x.row(t.x.rows() - 1, 1), c);
            }
        }
        t = new CallEdgeTest("Promise 12: for each TURN s becomes 6364136223846793005 s + 1442695040888963407");
        t.text("");
        for (int c = 0; c < 8; c++) {
            for (int i = 0; i < 16; i++) {
                t.x.add(c, 0);
            }
        }
        int rows = 0;
        for (long seed : new long[] {0, 1, -1, Long.MIN_VALUE, Long.MAX_VALUE, 42}) {
            t.due("play", t.x.play(seed, 8), 8);
            long s = seed;
            for (int i = 0; i < 8; i++) {
                s = next(s);
                t.due("client", t.x.row(rows, 1), s >>> 61);
                rows++;
            }
        }
        t = new CallEdgeTest("Promise 12: how many were DONE");
        t.text("");
        t.text("throw 1;");
        t.text("retry;");
        for (int c = 0; c < 8; c++) {
            t.x.add(c, c % 3);
        }
        t.due("three of eight are done", t.x.play(9, 500), 3);
        t.due("rows", t.x.rows(), 6);
        t.due("nothing is left", t.x.play(9, 500), 0);

        t = new CallEdgeTest("Promise 12: n TURNS (0 .. 2000)");
        t.text("while(1){}");
        for (int c = 0; c < 8; c++) {
            t.x.add(c, 0);
        }
        t.due("play(7, 0)", t.x.play(7, 0), 0);
        t.due("no turn", steps(t), 0);
        t.due("play(7, 1)", t.x.play(7, 1), 0);
        t.due("one turn", steps(t), 1);
        t.due("play(7, 500)", t.x.play(7, 500), 0);
        t.due("501 turns", steps(t), 501);
        t = new CallEdgeTest("Promise 12: 2000 TURNS");
        t.text("");
        t.text("while(1){}");
        int[] drawn = new int[8];
        long s = 7;
        for (int i = 0; i < 2000; i++) {
            s = next(s);
            drawn[(int) (s >>> 61)]++;
        }
        int last = (int) (s >>> 61);
        for (int c = 0; c < 8; c++) {
            t.x.add(c, 1);
        }
        t.due("play(7, 2000)", t.x.play(7, 2000), 0);
        for (int c = 0; c < 8; c++) {
            t.due("steps", t.x.client(c, 4), drawn[c] % 301);
        }
        t.due("the last is drawn", drawn[last] > 0 ? 1 : 0, 1);
        t = new CallEdgeTest("Promise 12: n TURNS: with 300 ROWS, too");
        t.text("while(1){}");
        for (int c = 0; c < 8; c++) {
            t.x.add(c, 0);
        }
        t.putRows(300);
        t.due("play(7, 40)", t.x.play(7, 40), 0);
        t.due("40 turns", steps(t), 40);
        t = new CallEdgeTest("Promise 12: NONE: another n");
        t.text("");
        for (int c = 0; c < 8; c++) {
            t.x.add(c, 0);
        }
        for (int n : new int[] {-1, 2001, -2000, LEAST, MOST}) {
            t.due("play(7, " + n + ")", t.x.play(7, n), NONE);
        }
        t.due("rows", t.x.rows(), 0);
    }

    private static int steps(CallEdgeTest t) {
        int all = 0;
        for (int c = 0; c < 8; c++) {
            all += t.x.client(c, 4);
        }
        return all;
    }

    private static void client() {
        CallEdgeTest t = new CallEdgeTest("Promise 13: NONE");
        t.text("");
        for (int c : NO_CLIENTS) {
            for (int what = 0; what < 9; what++) {
                t.due("client(" + c + ", " + what + ")", t.x.client(c, what), NONE);
            }
        }
        for (int what : new int[] {-1, 9, 10, LEAST, MOST}) {
            t.due("client(0, " + what + ")", t.x.client(0, what), NONE);
            t.due("client(7, " + what + ")", t.x.client(7, what), NONE);
        }
        t = new CallEdgeTest("Promise 13: 0 nothing to do, 1 a RUN to begin, 2 it RUNS, 3 it WAITS");
        t.text("");
        t.text("b=c;always 1;always 1;if(a+p=0){retry;}");
        t.isClient(5, 0, 0, NONE, 0, 0, 0, 0, 0, 0);
        t.x.add(5, 1);
        t.isClient(5, 1, 1, 1, 0, 0, 0, 0, 0, 0);
        t.turns(5, 0);
        t.isClient(5, 2, 1, 1, 0, 1, 4, 2, 0, 0);
        t.turns(5, 0, 0);
        t.isClient(5, 2, 1, 1, 0, 3, 4, 2, 0, 2);
        t.turns(5, 0);
        t.isClient(5, 2, 1, 1, 0, 4, 5 + (1 << P), 2, 0, 2);
        t.turns(5, 4);
        t.isClient(5, 3, 1, 1, 0, 0, 5 + (1 << P), 0, 0, 0);
        t.x.add(5, 0);
        t.isClient(5, 3, 2, 1, 0, 0, 5 + (1 << P), 0, 0, 0);
        t.x.put(P, 1);
        t.isClient(5, 3, 2, 1, 0, 0, 5 + (1 << P), 0, 0, 0);
        t.turns(5, 0);
        t.isClient(5, 2, 2, 1, 0, 1, 4, 2, 0, 0);
        t.x.put(C, 1);
        t.turns(5, 0, 0, 3);
        t.isClient(5, 1, 2, 1, 1, 0, 0, 0, 0, 0);
        t.turns(5, 0, 0, 0, 0, 1);
        t.isClient(5, 1, 1, 0, 0, 0, 0, 0, 0, 0);
        t.turns(5, 1);
        t.isClient(5, 0, 0, NONE, 0, 0, 0, 0, 0, 0);
        for (int c = 0; c < 8; c++) {
            t.isClient(c, 0, 0, NONE, 0);
        }
        t = new CallEdgeTest("Promise 13: CELLS that are READ, that are WRITTEN: all sixteen");
        t.addText(0, "q=a+b+c+d+e+f+g+h+i+j+k+l+m+n+o+p;a=1;b=1;c=1;d=1;e=1;f=1;g=1;h=1;i=1;j=1;k=1;l=1;m=1;n=1;o=1;p=1;");
        t.turns(0, 0);
        t.due("read", t.x.client(0, 5), 65535);
        t.due("written", t.x.client(0, 6), 0);
        for (int i = 0; i < 16; i++) {
            t.turns(0, 0);
            t.due("written", t.x.client(0, 6), (2 << i) - 1);
        }
        t.turns(0, 1);
        t.isCells(1, 1, 1, 1, 1, 1, 1, 1, 1, 1, 1, 1, 1, 1, 1, 1);
    }

    private static void sees() {
        CallEdgeTest t = new CallEdgeTest("Promise 14: WRITTEN, else READ, else the CELL now; a LOCAL's value");
        t.addText(0, "q=a+b;a=9;z=-1;");
        t.x.put(A, 1);
        t.x.put(B, 2);
        t.turns(0, 0, 0, 0);
        t.x.put(A, 11);
        t.x.put(B, 12);
        t.x.put(C, 13);
        t.x.put(P, 14);
        t.due("written and read", t.x.sees(0, A), 9);
        t.due("read", t.x.sees(0, B), 2);
        t.due("now", t.x.sees(0, C), 13);
        t.due("now", t.x.sees(0, P), 14);
        t.due("q", t.x.sees(0, Q), 3);
        t.due("r", t.x.sees(0, R), 0);
        t.due("z", t.x.sees(0, Z), -1);
        t.due("seen is not read", t.x.client(0, 5), 3);
        String s = "Promise 14: Without a RUN: the CELL now, 0";
        t.due("another client", t.x.sees(1, A), 11);
        t.due("another client", t.x.sees(7, P), 14);
        t.due("another client", t.x.sees(1, Q), 0);
        t.due("another client", t.x.sees(7, Z), 0);
        t.turns(0, 3);
        t.due(s, t.x.sees(0, A), 11);
        t.due(s, t.x.sees(0, Q), 0);
        t.due(s, t.x.sees(0, Z), 0);
        t = new CallEdgeTest(s + ": of one that WAITS");
        t.addText(0, "q=a+5;b=7;retry;");
        t.turns(0, 0, 0, 4);
        t.x.put(A, 3);
        t.due("a", t.x.sees(0, A), 3);
        t.due("b", t.x.sees(0, B), 0);
        t.due("q", t.x.sees(0, Q), 0);
        t = new CallEdgeTest("Promise 14: 0 for none such");
        t.x.put(A, 5);
        t.x.put(P, 5);
        t.addText(0, "q=5;z=5;a=5;");
        t.turns(0, 0, 0, 0);
        for (int letter : new int[] {-1, 26, 27, LEAST, MOST}) {
            t.due("sees(0, " + letter + ")", t.x.sees(0, letter), 0);
            t.due("sees(1, " + letter + ")", t.x.sees(1, letter), 0);
        }
        for (int client : NO_CLIENTS) {
            t.due("sees(" + client + ", 0)", t.x.sees(client, A), 0);
            t.due("sees(" + client + ", 16)", t.x.sees(client, Q), 0);
        }
        t = new CallEdgeTest("Promise 14: What a letter (0 .. 25) is");
        t.addText(0, "a=1;b=2;c=3;d=4;e=5;f=6;g=7;h=8;i=9;j=10;k=11;l=12;m=13;n=14;o=15;p=16;"
            + "q=17;r=18;s=19;t=20;u=21;v=22;w=23;x=24;y=25;z=26;");
        for (int i = 0; i < 26; i++) {
            t.turns(0, 0);
        }
        for (int letter = 0; letter < 26; letter++) {
            t.due("sees(0, " + letter + ")", t.x.sees(0, letter), letter + 1);
            t.due("sees(1, " + letter + ")", t.x.sees(1, letter), 0);
        }
    }

    private static void rows() {
        CallEdgeTest t = new CallEdgeTest("Promise 15: How many RULES there are");
        t.due("rules", t.x.rules(), 0);
        t.addText(0, "always 1;always 2;");
        t.turns(0, 0, 0);
        t.due("its own are not yet", t.x.rules(), 0);
        t.turns(0, 1);
        t.due("rules", t.x.rules(), 2);
        t.due("thrown", t.does("always 3;throw 1;"), 2);
        t.due("rules", t.x.rules(), 2);

        t = new CallEdgeTest("3 ROWS tell in order what came about; Promise 16: How many ROWS there are");
        t.due("rows", t.x.rows(), 0);
        t.x.put(5, -9);
        t.due("put", t.x.rows(), 1);
        t.addText(7, "a=b;");
        t.turns(7, 0);
        t.due("a step is no row", t.x.rows(), 1);
        t.x.put(B, 4);
        t.turns(7, 3);
        t.due("a cut is no row", t.x.rows(), 2);
        t.addText(2, "c=1;throw -6;");
        t.turns(2, 0, 2);
        t.due("thrown", t.x.rows(), 3);
        t.turns(7, 0, 1);
        t.due("done", t.x.rows(), 4);
        t.addText(0, "retry;");
        t.turns(0, 4, 4);
        t.turns(1, 5);
        t.due("waits are no rows", t.x.rows(), 4);

        t.due("Promise 17", t.x.row(0, 0), 0);
        t.isRow(0, -9, 0, NONE, 5, 0, 0);
        t.isRow(1, 4, 0, NONE, 1, 0, 0);
        t.isRow(2, -6, 2, 2, 1, 2, 0);
        t.isRow(3, 0, 1, 7, 0, 2, 1);
        String s = "Promise 17: NONE: none such";
        for (int i : new int[] {-1, 4, 299, 300, LEAST, MOST}) {
            for (int what = 0; what < 5; what++) {
                t.due(s, t.x.row(i, what), NONE);
            }
            t.due("Promise 18: 0 of .. none such", t.x.value(i), 0);
        }
        for (int what : new int[] {-1, 5, 6, LEAST, MOST}) {
            t.due(s, t.x.row(0, what), NONE);
            t.due(s, t.x.row(3, what), NONE);
        }
        values();
    }

    private static void values() {
        CallEdgeTest t = new CallEdgeTest("Promise 18: What ROW i put, or threw; 0 of DONE");
        t.x.put(A, Long.MIN_VALUE);
        t.x.put(P, Long.MAX_VALUE);
        String[] texts = {"throw a;", "throw p;", "a=5;", "throw 1/0;", "always 0;"};
        for (String s : texts) {
            t.does(s);
        }
        long[] want = {Long.MIN_VALUE, Long.MAX_VALUE, Long.MIN_VALUE, Long.MAX_VALUE, 0, -1, -2};
        for (int i = 0; i < want.length; i++) {
            t.due("value(" + i + ")", t.x.value(i), want[i]);
        }
        t.due("rows", t.x.rows(), 7);
        t = new CallEdgeTest("3 ROWS: 300 at most");
        t.addText(0, "");
        for (int i = 0; i < 300; i++) {
            t.due("put", t.x.put(P, i), i + 1);
        }
        t.due("put", t.x.put(P, 300), NONE);
        t.turns(0, NONE);
        t.due("rows", t.x.rows(), 300);
        t.isRow(299, 299, 0, NONE, 15, 0, 0);
        t.isRow(300, 0, NONE, NONE, NONE, NONE, NONE);
        t.due("replays", t.x.replays(), 1);
    }

    private static void replays() {
        CallEdgeTest t = new CallEdgeTest("Promise 19: whether all ROWS .. come to the same");
        t.due("none", t.x.replays(), 1);
        String[] texts = {"a=a+1;q=b;c=c+q;", "always a<99;b=b+a;", "if(b<20){retry;}b=b-20;", "throw a*b;", "a=a+b/(c%2);",
            "either{if(c<9){retry;}c=0;}or{c=c+3;}", "try{a=200;throw b;}catch q{d=d+q;}", "a=200;", "q=5;while(q){q=q-1;e=e+a;}"};
        for (String s : texts) {
            t.text(s);
        }
        for (int i = 0; i < 40; i++) {
            for (int c = 0; c < 8; c++) {
                t.x.add(c, (i + 3 * c) % texts.length);
            }
            t.x.play(i, 60);
            if (i % 4 == 0) {
                t.x.put(i % 3, i);
                t.due("replays", t.x.replays(), 1);
            }
        }
        int[] kinds = new int[3];
        int rows = t.x.rows();
        for (int i = 0; i < rows && t.x.left() > 1; i++) {
            kinds[t.x.row(i, 0)]++;
        }
        t.due("all kinds came", kinds[0] > 0 && kinds[1] > 5 && kinds[2] > 5 ? 1 : 0, 1);
        t.due("replays", t.x.replays(), 1);
        t = new CallEdgeTest("Promise 19: with 301 STEPS, with -2 and -3");
        t.addText(0, "while(1){}");
        for (int i = 0; i < 300; i++) {
            t.x.turn(0);
        }
        t.turns(0, 2);
        t.due("rules", t.does("always 0;"), 2);
        t.due("rules", t.does("a=4;always a;"), 1);
        t.due("rules", t.does("a=0;"), 2);
        t.due("replays", t.x.replays(), 1);
        t.x.clear();
        t.due("replays behind clear", t.x.replays(), 1);
        t.x.put(A, 0);
        t.due("replays", t.x.replays(), 1);
    }

    private static void clear() {
        CallEdgeTest t = new CallEdgeTest("Promise 20: how many ROWS there were");
        t.due("clear", t.x.clear(), 0);
        t.x.put(A, 1);
        t.x.put(B, 1);
        t.due("clear", t.x.clear(), 2);
        t.due("clear", t.x.clear(), 0);
        t.putRows(300);
        t.due("clear", t.x.clear(), 300);
        t.due("put", t.x.put(P, 1), 1);
        t = new CallEdgeTest("Promise 20: All is as at the beginning");
        t.makeUrgent();
        t.addText(1, "always a+1;q=7;c=3;");
        t.addText(2, "if(c=0){retry;}");
        t.addText(3, "always 5;d=1;");
        t.turns(3, 0, 0, 6);
        t.turns(2, 0, 4);
        t.turns(1, 0, 0, 0);
        t.turns(0, 0, 1);
        t.turns(3, 1);
        t.x.add(0, 0);
        for (int i = 1; i <= 4; i++) {
            t.turns(0, 0);
            t.x.put(A, i);
            t.turns(0, 3);
        }
        t.due("text", t.text("a=1;b"), -2);
        t.due("clear", t.x.clear(), 10);
        t.isCells(new long[16]);
        t.isVersions(new int[16]);
        for (int c = 0; c < 8; c++) {
            t.isClient(c, 0, 0, NONE, 0, 0, 0, 0, 0, 0);
            t.due("sees", t.x.sees(c, C), 0);
            t.due("sees", t.x.sees(c, Q), 0);
            t.turns(c, 5);
        }
        t.due("rules", t.x.rules(), 0);
        t.due("rows", t.x.rows(), 0);
        t.isRow(0, 0, NONE, NONE, NONE, NONE, NONE);
        t.due("place", t.x.place(), NONE);
        t.due("a rule is gone", t.x.put(A, -1), 1);
        t.x.add(1, 1);
        t.turns(1, 0);
        t.isClient(1, 2, 1, 1, 0, 1, 0, 0, 0, 1);
        t.x.add(2, 2);
        t.turns(2, 0);
        t.isClient(2, 2, 1, 2, 0, 1, 4, 0, 0, 0);
        t.due("replays", t.x.replays(), 1);
        t = new CallEdgeTest("Promise 20: .. but the TRANSACTIONS' texts and the tape");
        t.text("a=4;");
        t.text("if(1){b=-5;}");
        t.feedAll("c=8;                ");
        t.x.clear();
        t.due("told", t.x.told(0, 0), 1);
        t.due("told", t.x.told(1, 1), 3);
        t.due("told", t.x.told(1, 2), 1);
        t.due("told", t.x.told(2, 0), NONE);
        t.due("the tape", t.x.end(4), 4);
        t.due("text", t.x.text(), 2);
        for (int i = 0; i < 3; i++) {
            t.x.add(0, i);
        }
        t.turns(0, 0, 1, 0, 0, 1, 0, 1, 5);
        t.isCells(4, -5, 8);
    }

    /** All that can be seen of clients, cells, rules and rows, and of the letters of two clients. */
    private List<Long> seen() {
        List<Long> all = new ArrayList<>();
        for (int c = 0; c < 8; c++) {
            for (int what = 0; what < 9; what++) {
                all.add((long) x.client(c, what));
            }
        }
        for (int cell = 0; cell < 16; cell++) {
            all.add(x.cell(cell));
            all.add((long) x.version(cell));
        }
        for (int letter = 0; letter < 26; letter++) {
            all.add(x.sees(1, letter));
        }
        all.add((long) x.rules());
        all.add((long) x.rows());
        all.add((long) x.place());
        all.add((long) x.told(11, 0));
        all.add((long) x.replays());
        return all;
    }

    private static void refused() {
        CallEdgeTest t = new CallEdgeTest("a call that is refused leaves all as it was");
        t.due("a rule", t.does("always f<9;"), 1);
        t.makeUrgent();
        t.addText(1, "q=c+1;d=q;always 1;r=1;");
        t.turns(1, 0, 0, 0);
        t.addText(2, "if(e=0){retry;}");
        t.turns(2, 0, 4);
        for (int i = 4; i < 12; i++) {
            t.due("text", t.x.text(), i);
        }
        for (int i = 1; i <= 16; i++) {
            t.due("add", t.x.add(3, 11), i);
        }
        t.feedAll("a=1;a=1;a=1;a=1;   ");
        List<Long> before = t.seen();
        for (int n : new int[] {0, 19, 20, -1, 21}) {
            t.due("end(" + n + ")", t.x.end(n), NONE);
        }
        t.due("text", t.x.text(), NONE);
        t.due("put(16)", t.x.put(16, 1), NONE);
        t.due("put(-1)", t.x.put(-1, 1), NONE);
        t.due("put(f, 9)", t.x.put(5, 9), -2);
        t.due("add(8, 0)", t.x.add(8, 0), NONE);
        t.due("add(0, 12)", t.x.add(0, 12), NONE);
        t.due("add(0, -1)", t.x.add(0, -1), NONE);
        t.due("the 17th", t.x.add(3, 0), NONE);
        t.turns(-1, NONE);
        t.turns(8, NONE);
        t.turns(4, 5);
        t.turns(2, 4);
        t.turns(3, 6);
        t.due("play(1, -1)", t.x.play(1, -1), NONE);
        t.due("play(1, 2001)", t.x.play(1, 2001), NONE);
        t.due("play(1, 0)", t.x.play(1, 0), 0);
        t.due("all is as it was", t.seen().equals(before) ? 1 : 0, 1);
        t.due("the tape", t.x.feed(0, 0, 0, 0, 0), 39);
    }

    public static void main(String[] args) {
        put();
        cells();
        add();
        turn();
        play();
        client();
        sees();
        rows();
        replays();
        clear();
        refused();
        finish();
    }
}
