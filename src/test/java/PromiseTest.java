/** The promises one by one: ordinary calls, the edges that the document names, wrong arguments. */
public final class PromiseTest extends Bench {
    private static final int[] WRONG = {-1, LEAST, MOST};

    private PromiseTest(String about) {
        super(about);
    }

    private static void newObject() {
        PromiseTest t = new PromiseTest("1 a new object");
        Counted x = t.x;
        t.due("NONE", NONE, -1);
        for (int i = 0; i < 16; i++) {
            t.due("cell", x.cell(i), 0);
            t.due("version", x.version(i), 0);
        }
        for (int c = 0; c < 8; c++) {
            t.isClient(c, 0, 0, NONE, 0, 0, 0, 0, 0, 0);
            t.due("turn", x.turn(c), 5);
            t.due("add", x.add(c, 0), NONE);
        }
        t.due("rules", x.rules(), 0);
        t.due("rows", x.rows(), 0);
        t.due("place", x.place(), NONE);
        t.due("told", x.told(0, 0), NONE);
        t.due("end(20)", x.end(20), NONE);
        t.due("replays", x.replays(), 1);
        t.due("clear", x.clear(), 0);
        new PromiseTest("1 objects of their own").twoObjects();
    }

    private void twoObjects() {
        MemoryTransactions other = new MemoryTransactions();
        other.put(0, 5);
        due("cell of the other", x.cell(0), 0);
        due("rows of the other", x.rows(), 0);
    }

    private static void feed() {
        PromiseTest t = new PromiseTest("2 feed");
        Counted x = t.x;
        for (int i = 1; i <= 40; i++) {
            t.due("feed", x.feed(i, -1, 0, Integer.MIN_VALUE, i), 20 * i);
        }
        t.due("feed of the 41st", x.feed(0, 0, 0, 0, 0), NONE);
        t.due("nothing came", x.end(20), 800);
        t.due("end", x.end(19), 799);
        t.due("feed to 799", x.feed(0, 0, 0, 0, 0), NONE);
        t.due("end", x.end(1), 780);
        t.due("feed to 780", x.feed(0, 0, 0, 0, 0), 800);

        t = new PromiseTest("2 the order of bytes");
        // "a=1+2*3-b%7<4" and ";b=9;" : every byte in its place, or it is no such text.
        t.due("feed", t.x.feed(0x613d312b, 0x322a332d, 0x6225373c, 0x343b623d, 0x393b2020), 20);
        t.due("text", t.x.text(), 0);
        t.due("statements", t.x.told(0, 0), 2);
        t.due("unaries", t.x.told(0, 1), 7);
        t.due("feed", t.x.feed(0x613d313b, 0x20202020, 0x20202020, 0x20202020, 0x202020ff), 20);
        t.due("text", t.x.text(), -2);
        t.due("place", t.x.place(), 19);
        t.due("feed", t.x.feed(0x80000000, 0, 0, 0, 0), 20);
        t.due("text", t.x.text(), -2);
        t.due("place", t.x.place(), 0);
    }

    private static void end() {
        PromiseTest t = new PromiseTest("3 end");
        Counted x = t.x;
        t.due("end(0) of none", x.end(0), NONE);
        x.feed(0, 0, 0, 0, 0);
        t.due("end(-1)", x.end(-1), NONE);
        t.due("end(21)", x.end(21), NONE);
        t.due("end(least)", x.end(Integer.MIN_VALUE), NONE);
        t.due("end(most)", x.end(Integer.MAX_VALUE), NONE);
        t.due("end(20)", x.end(20), 20);
        t.due("end(19)", x.end(19), 19);
        t.due("end of 19", x.end(19), NONE);
        t.due("feed", x.feed(0, 0, 0, 0, 0), 39);
        t.due("end(0)", x.end(0), 19);
        x.feed(0, 0, 0, 0, 0);
        t.due("end(5)", x.end(5), 24);
        t.due("end(5) again", x.end(5), 9);

        t = new PromiseTest("3 the first n stay");
        t.x.feed(0x613d313b, 0x623d323b, 0x633d333b, 0x643d343b, 0x653d353b);
        t.due("end", t.x.end(8), 8);
        t.due("text", t.x.text(), 0);
        t.due("statements", t.x.told(0, 0), 2);
    }

    private static void text() {
        PromiseTest t = new PromiseTest("4 text");
        for (int i = 0; i < 11; i++) {
            t.due("text", t.text("a=" + i + ";"), i);
            t.due("a fault", t.text("a="), -2);
            t.due("the tape is empty", t.x.end(0), NONE);
        }
        t.due("an empty text", t.x.text(), 11);
        t.feedAll("a=1;                ");
        t.due("the 13th", t.x.text(), NONE);
        t.due("it stays", t.x.end(20), 20);
        t.due("place is that of the one that was read", t.x.place(), NONE);
        t.due("told", t.x.told(12, 0), NONE);
        t.x.clear();
        t.due("texts stay", t.x.text(), NONE);

        t = new PromiseTest("4 a tape that is whole");
        String s = "a=1;" + times(796, " ");
        t.due("800 bytes", t.text(s), 0);
        t.due("800 bytes, a fault behind", t.text("a=1" + times(797, "\n")), -2);
        t.due("place", t.x.place(), 800);
    }

    private void fault(int at, String s) {
        due("text of " + s, text(s), at == NONE ? 0 : -2);
        due("place in " + s, x.place(), at);
    }

    private static void fault(String s, int at) {
        new PromiseTest("5 place").fault(at, s);
    }

    private static void right(String s) {
        fault(s, NONE);
    }

    private static void place() {
        right("");
        right(" \n ");
        right("a=1;");
        right("a=123456789;");
        right("z = q ;");
        right("a=b=c;");
        right("a\n=\n-\n(\nb\n)\n;\n");
        right("if(a){}else{}while(b){}either{}or{}try{}catch z{}always p#1;throw-1;retry;");
        right("if ( 1 ) { if(1){}else{} } else { }");
        fault("a", 1);
        fault("a=", 2);
        fault("a=1", 3);
        fault("a=1 \n", 5);
        fault("a=1;b", 5);
        fault("=", 0);
        fault(" 1=1;", 1);
        fault("a=+1;", 2);
        fault("a==1;", 2);
        fault("a=1<2<3;", 5);
        fault("a=1<2=3;", 5);
        fault("a=1 2;", 4);
        fault("a=1+;", 4);
        fault("a=1*-;", 5);
        fault("a=(1;", 4);
        fault("a=();", 3);
        fault("a=1);", 3);
        fault("a=1;}", 4);
        fault("a=1;;", 4);
        fault("{a=1;}", 0);
        fault("A=1;", 0);
        fault("a=1;\t", 4);
        fault("a=1;\r", 4);
        fault("a=1;\u0000", 4);
        fault("a=1;\u00e1", 4);
        fault("a=1>2;", 3);
        fault("a=!1;", 2);
        fault("ab=1;", 0);
        fault("a=bc;", 2);
        fault("a1=1;", 1);
        fault("a=1a;", 3);
        fault("a=1234567890;", 2);
        fault("a=0000000001;", 2);
        fault("iff(1){}", 0);
        fault("of(1){}", 0);
        fault("xlways a;", 0);
        fault("alwayz a;", 0);
        fault(times(800, ";"), 0);
        fault("else{}", 0);
        fault("or{}", 0);
        fault("catch q{}", 0);
        fault("if 1", 3);
        fault("if(1", 4);
        fault("if(1)", 5);
        fault("if(1)a=1;", 5);
        fault("if(1){", 6);
        fault("if(1){a=1;", 10);
        fault("if(1){}else", 11);
        fault("if(1){}else a=1;", 12);
        fault("if(1){}else if(1){}", 12);
        fault("if(1){}else{}else{}", 13);
        fault("while(1){}else{}", 10);
        fault("while(){}", 6);
        fault("retry 1;", 6);
        fault("retry", 5);
        fault("throw;", 5);
        fault("either{}", 8);
        fault("either{}{}", 8);
        fault("either{}else{}", 8);
        fault("either a=1;", 7);
        fault("either{}or", 10);
        fault("try{}", 5);
        fault("try{}or{}", 5);
        fault("try{}catch{}", 10);
        fault("try{}catch a{}", 11);
        fault("try{}catch p{}", 11);
        fault("try{}catchq{}", 5);
        fault("try{}catch q", 12);
        fault("try{}catch qr{}", 11);
        fault("try{}catch 1{}", 11);
        fault("always q;", 7);
        fault("always a+(b*z);", 12);
        fault("always", 6);
        right("always a;b=q;");
        right("q=1;always p;r=q;");
        limits();
    }

    private static void limits() {
        right(times(40, "a=1;"));
        fault(times(41, "a=1;"), 160);
        fault(times(40, "a=1;") + "}", 160);
        fault(times(40, "a=1;") + " 1", 161);
        right(times(39, "a=1;") + "if(1){}else{}");
        fault(times(39, "a=1;") + "if(1){b=1;}", 162);
        right(times(8, "if(1){") + times(8, "}"));
        fault(times(9, "if(1){") + times(9, "}"), 53);
        right(times(7, "if(1){") + "if(1){}else{}if(1){}" + times(7, "}"));
        fault(times(8, "either{") + "try{}catch q{}", 59);
        right("a=1" + times(59, "+1") + ";");
        fault("a=1" + times(60, "+1") + ";", 122);
        fault("a=1" + times(60, "*b") + ";", 122);
        fault("a=1" + times(58, "+1") + "+-1;", 121);
        fault("a=1" + times(58, "+1") + "+(1);", 121);
        fault("a=1" + times(59, "+1") + "+-1;", 122);
        fault(times(20, "a=1+1+1;") + "retry;throw 1;", 172);
        right("a=" + times(8, "-") + "1;");
        fault("a=" + times(9, "-") + "1;", 10);
        right("a=" + times(8, "(") + "1" + times(8, ")") + ";");
        fault("a=" + times(9, "(") + "1" + times(9, ")") + ";", 10);
        right("a=-(-(-(-(1))));");
        fault("a=-(-(-(-(-1))));", 10);
        fault("a=-(-(-(-((1)))));", 10);
        right("a=-(-(-(-(1))))+-(-(-(-(1))));");
        right("if(" + times(8, "(") + "1" + times(8, ")") + "){}");

        PromiseTest t = new PromiseTest("5 bytes behind the text");
        t.x.feed(0x61616161, 0x61616161, 0, 0, 0);
        t.x.end(1);
        t.due("text", t.x.text(), -2);
        t.due("place", t.x.place(), 1);
        t.x.feed(0x613d3131, 0x31313131, 0x31313131, 0x3b3b3b3b, 0x3b3b3b3b);
        t.x.end(3);
        t.due("text", t.x.text(), -2);
        t.due("place", t.x.place(), 3);

        t = new PromiseTest("5 the latest that was read");
        t.due("text", t.text("a=;"), -2);
        t.due("place", t.x.place(), 2);
        t.due("place again", t.x.place(), 2);
        t.due("text", t.text("a=1;"), 0);
        t.due("place", t.x.place(), NONE);
        for (int i = 1; i < 12; i++) {
            t.text("a=1;b");
            t.due("place", t.x.place(), 5);
            t.due("text", t.text(""), i);
        }
        t.due("not read", t.text("a=;"), NONE);
        t.due("place", t.x.place(), NONE);
    }

    private void isTold(String s, int statements, int unaries, int bodies) {
        int n = text(s);
        due("statements of " + s, x.told(n, 0), statements);
        due("unaries of " + s, x.told(n, 1), unaries);
        due("bodies of " + s, x.told(n, 2), bodies);
    }

    private static void told() {
        PromiseTest t = new PromiseTest("6 told");
        t.isTold("", 0, 0, 0);
        t.isTold("a=-(b+1)*2;", 1, 5, 0);
        t.isTold("if(a<1){b=1;while(c){}}else{}", 3, 4, 2);
        t.isTold("either{try{}catch q{retry;}}or{}", 3, 0, 2);
        t.isTold("always a+b;throw 1;", 2, 3, 0);
        t.isTold("if(1){}if(1){if(1){}}if(1){}", 4, 4, 2);
        t.isTold(times(8, "while(--1){") + times(8, "}"), 8, 24, 8);
        t.isTold(times(40, "a=1;"), 40, 40, 0);
        for (int w : WRONG) {
            t.due("told(0, wrong)", t.x.told(0, w), NONE);
            t.due("told(wrong, 0)", t.x.told(w, 0), NONE);
        }
        t.due("told(0, 3)", t.x.told(0, 3), NONE);
        t.due("told(8, 0)", t.x.told(8, 0), NONE);
        t.text("if(1){if(1){a=1;");
        t.due("a text with a fault", t.x.told(8, 0), NONE);
        t.isTold("if(a){}", 1, 1, 1);
    }

    private static void put() {
        PromiseTest t = new PromiseTest("7 put");
        Counted x = t.x;
        t.due("put", x.put(0, 5), 1);
        t.due("put", x.put(0, -7), 2);
        t.due("put of the same", x.put(0, -7), 3);
        t.due("put", x.put(15, Long.MIN_VALUE), 1);
        t.due("cell", x.cell(0), -7);
        t.due("cell", x.cell(15), Long.MIN_VALUE);
        t.due("put(16)", x.put(16, 1), NONE);
        for (int w : WRONG) {
            t.due("put(wrong)", x.put(w, 1), NONE);
        }
        t.due("rows", x.rows(), 4);
        t.isRow(1, -7, 0, NONE, 0, 0, 0);
        t.isRow(3, Long.MIN_VALUE, 0, NONE, 15, 0, 0);

        t.due("a rule", t.does("always a<10;always 6/b;"), 2);
        t.due("put", x.put(1, 3), 1);
        t.due("a rule", t.does("always a<10;always 6/b;"), 1);
        int rows = x.rows();
        t.due("put(a, 10)", x.put(0, 10), -2);
        t.due("put(b, 0)", x.put(1, 0), -2);
        t.due("put(b, 7): 6/7 is 0", x.put(1, 7), -2);
        t.due("nothing was done", x.cell(0), -7);
        t.due("nothing was done", x.version(0), 3);
        t.due("nothing was done", x.rows(), rows);
        t.due("put(16) with rules", x.put(16, 10), NONE);
        t.due("put(a, 9)", x.put(0, 9), 4);
        for (int i = rows + 1; i < 300; i++) {
            x.put(2, i);
        }
        t.due("rows", x.rows(), 300);
        t.due("put to 300 rows", x.put(0, 9), NONE);
        t.due("put to 300 rows, against a rule", x.put(0, 10), NONE);
        t.due("nothing was done", x.version(0), 4);
    }

    private static void cells() {
        PromiseTest t = new PromiseTest("8 cell, 9 version");
        for (int i = 0; i < 16; i++) {
            t.x.put(i, i * 1000000000000L);
            t.x.put(i, i * 1000000000000L + 1);
        }
        for (int i = 0; i < 16; i++) {
            t.due("cell", t.x.cell(i), i * 1000000000000L + 1);
            t.due("version", t.x.version(i), 2);
        }
        for (int w : new int[] {-1, 16, 25, Integer.MIN_VALUE, Integer.MAX_VALUE}) {
            t.due("cell(wrong)", t.x.cell(w), 0);
            t.due("version(wrong)", t.x.version(w), NONE);
        }
        t = new PromiseTest("9 version of what a run writes");
        t.due("done", t.does("a=1;a=2;b=b;p=3;q=4;"), 1);
        t.isCells(2, 0, 0);
        t.due("version, once for two", t.x.version(A), 1);
        t.due("version, for the same value", t.x.version(B), 1);
        t.due("version", t.x.version(P), 1);
        t.due("version of one that isn't written", t.x.version(C), 0);
    }

    private static void add() {
        PromiseTest t = new PromiseTest("10 add");
        t.text("if(a=0){retry;}");
        t.due("add of none such", t.x.add(0, 1), NONE);
        for (int w : WRONG) {
            t.due("add(wrong, 0)", t.x.add(w, 0), NONE);
            t.due("add(0, wrong)", t.x.add(0, w), NONE);
        }
        t.due("add(8, 0)", t.x.add(8, 0), NONE);
        for (int i = 1; i <= 16; i++) {
            t.due("add", t.x.add(7, 0), i);
        }
        t.due("add of the 17th", t.x.add(7, 0), NONE);
        t.turns(7, 0);
        t.due("with the one that runs", t.x.add(7, 0), NONE);
        t.turns(7, 4);
        t.due("with the one that waits", t.x.add(7, 0), NONE);
        t.x.put(A, 1);
        t.turns(7, 0, 1);
        t.due("after one is done", t.x.add(7, 0), 16);
        t.due("another client", t.x.add(0, 0), 1);
        t.isClient(7, 1, 16, 0, 0);

        t = new PromiseTest("10 one after the other");
        t.text("a=a*10+1;");
        t.text("a=a*10+2;");
        t.x.add(3, 1);
        t.x.add(3, 0);
        t.x.add(3, 1);
        t.isClient(3, 1, 3, 1);
        t.turns(3, 0, 1);
        t.isClient(3, 1, 2, 0);
        t.turns(3, 0, 1, 0, 1, 5);
        t.isCells(212);
        t.isClient(3, 0, 0, NONE);
    }

    private static void exps() {
        PromiseTest t = new PromiseTest("exps");
        t.due("done", t.does("a=7/2;b=-7/2;c=-7%2;d=7%-2;e=-(7/2);f=7-10*2;"), 1);
        t.isCells(3, -3, -1, 1, -3, -13);
        t.due("done", t.does("a=1<2;b=2<1;c=2=2;d=2#2;e=1#2;f=1=2;g=1<1;"), 1);
        t.isCells(1, 0, 1, 0, 1, 0, 0);
        t.due("done", t.does("a=1+2*3-4;b=(1+2)*3=9;c=10-3-2;d=100/10/5;e=2-1<1+1;f=7%4*2;g=--3;h=2*-3;"), 1);
        t.isCells(3, 1, 5, 2, 1, 6, 3, -6);
        t.x.put(P, Long.MIN_VALUE);
        t.due("done", t.does("a=p/-1;b=p%-1;c=-p;d=p-1;e=p*2;f=p*-1;g=p<p-1;h=p/2;"), 1);
        t.isCells(Long.MIN_VALUE, 0, Long.MIN_VALUE, Long.MAX_VALUE, 0, Long.MIN_VALUE, 1, Long.MIN_VALUE / 2);
        t.due("done", t.does("a=999999999*999999999;b=(0=0)+(0#0);c=00012;"), 1);
        t.isCells(999999998000000001L, 1, 12);
        for (String s : new String[] {"a=1/0;", "a=1%0;", "a=0/0;", "q=b*0;throw 5/q;", "if(1/0){}", "while(1%0){}"}) {
            t = new PromiseTest("exps, by 0");
            t.due(s, t.does(s), 2);
            t.due("value", t.x.value(0), -1);
        }
        t = new PromiseTest("exps, from the left to the right");
        t.addText(0, "try{q=a/0+b;}catch r{}");
        t.turns(0, 0, 0);
        t.due("read", t.x.client(0, 5), 1);
        t.due("thrown", t.x.sees(0, R), -1);
    }

    private void isDone(String s, int steps, long... cells) {
        int i = x.rows();
        due("a run of " + s, does(s), 1);
        isRow(i, 0, 1, 0, i, steps, 0);
        isCells(cells);
    }

    private static void statements() {
        new PromiseTest("11 nothing").isDone("", 1, 0);
        new PromiseTest("11 letter").isDone("a=1;q=a+1;b=q;", 4, 1, 2);
        new PromiseTest("11 while").isDone("q=3;while(q){a=a+2;q=q-1;}", 12, 6);
        new PromiseTest("11 while, empty").isDone("while(a){}", 2, 0);
        new PromiseTest("11 if").isDone("if(0){a=1;}b=2;if(-1){c=3;}", 5, 0, 2, 3);
        new PromiseTest("11 else").isDone("if(0){a=1;}else{a=2;}if(5){b=1;}else{b=2;}", 5, 2, 1);
        new PromiseTest("11 empty bodies").isDone("if(1){}else{a=1;}either{}or{b=1;}try{}catch q{c=1;}", 4, 0, 0, 0);
        new PromiseTest("11 behind").isDone("q=2;while(q){q=q-1;if(q){try{either{a=a+1;}or{}}catch r{}}}b=1;", 13, 1, 1);
        new PromiseTest("11 try").isDone("a=1;try{a=2;q=5;always 0;throw 9;}catch r{b=r;}c=q;", 9, 1, 9, 0);
        new PromiseTest("11 try, by 0").isDone("try{a=1/0;}catch q{b=q;}", 4, 0, -1);
        new PromiseTest("11 try, nothing thrown").isDone("try{a=1;}catch q{b=1;}c=2;", 4, 1, 0, 2);
        new PromiseTest("11 the catch's body").isDone("try{try{throw 1;}catch q{throw q+1;}}catch r{a=r;}", 6, 2);
        new PromiseTest("11 a try's exp").isDone("try{if(1/0){a=1;}else{a=2;}}catch q{a=q;}", 4, -1);
        new PromiseTest("11 the local, set anew").isDone("q=4;try{q=5;throw q;}catch r{a=q;b=r;}", 7, 4, 5);
        new PromiseTest("11 an empty catch").isDone("q=2;while(q){q=q-1;try{a=a+1;throw 1;}catch r{}b=b+1;}", 15, 0, 2);
        new PromiseTest("11 retry").isDone("either{a=1;always 0;q=3;retry;}or{b=a+q;}", 7, 0, 0);
        new PromiseTest("11 either, no retry").isDone("either{a=1;}or{a=2;}b=1;", 4, 1, 1);
        new PromiseTest("11 retry through try").isDone("either{try{retry;}catch q{a=9;}}or{a=1;}", 5, 1);
        new PromiseTest("11 throw through either").isDone("try{either{throw 3;}or{a=9;}}catch q{a=q;}", 5, 3);
        new PromiseTest("11 retry in or").isDone("either{either{retry;}or{retry;}}or{a=4;}", 6, 4);
        new PromiseTest("11 retry in catch").isDone("either{try{throw 1;}catch q{retry;}}or{a=5;}", 6, 5);
        new PromiseTest("11 either in while").isDone("q=3;while(q){q=q-1;either{a=a+1;if(q=1){retry;}}or{b=b+1;}}", 20, 2, 1);
        new PromiseTest("11 what was written ahead stays").isDone("a=1;b=1;try{a=2;throw 0;}catch q{}either{b=2;retry;}or{}", 9, 1, 1);
        String deep = times(8, "if(1){") + "a=1;" + times(8, "}") + "b=1;";
        new PromiseTest("11 out of eight bodies").isDone(deep, 11, 1, 1);
        deep = "try{" + times(7, "if(1){") + "a=1;throw 5;" + times(7, "}") + "}catch q{b=q;}";
        new PromiseTest("11 thrown out of eight bodies").isDone(deep, 12, 0, 5);
        deep = "either{" + times(7, "either{") + "a=1;retry;" + times(7, "}or{retry;}") + "}or{b=6;}";
        new PromiseTest("11 retry out of eight bodies").isDone(deep, 19, 0, 6);
        PromiseTest t = new PromiseTest("11 each try has its own mark");
        t.isDone("try{a=1;try{a=2;throw 1;}catch q{}b=a;throw 2;}catch r{c=r;}", 9, 0, 0, 2);
        t.due("a is not written", t.x.version(A), 0);
        t.due("b is not written", t.x.version(B), 0);
        t = new PromiseTest("11 throw");
        t.due("thrown", t.does("a=1;throw 6*7;"), 2);
        t.isRow(0, 42, 2, 0, 0, 2, 0);
        t.isCells(0);
        t.due("thrown out of catch", t.does("try{throw 1;}catch q{throw 2;}"), 2);
        t.isRow(1, 2, 2, 0, 1, 3, 0);
        t.due("thrown out of or", t.does("try{}catch q{}either{retry;}or{throw a-3;}"), 2);
        t.isRow(2, -3, 2, 0, 2, 4, 0);
    }

    private static void tooLong() {
        PromiseTest t = new PromiseTest("11 300 steps");
        t.due("300 steps", t.does("q=99;while(q){a=a+1;q=q-1;}"), 1);
        t.isRow(0, 0, 1, 0, 0, 300, 0);
        t.isCells(99);
        t = new PromiseTest("11 the end as the 301st step");
        t.due("thrown", t.does("b=7;q=99;while(q){a=a+1;q=q-1;}"), 2);
        t.isRow(0, -3, 2, 0, 0, 301, 0);
        t.isCells(0, 0);
        t = new PromiseTest("11 the 301st step, past all trys");
        t.due("thrown", t.does("try{while(1){}}catch q{b=1;}"), 2);
        t.isRow(0, -3, 2, 0, 0, 301, 0);
        t = new PromiseTest("11 the 301st step, cut");
        t.x.put(A, 1);
        t.addText(0, "while(a){}");
        for (int i = 0; i < 300; i++) {
            t.x.turn(0);
        }
        t.isClient(0, 2, 1, 0, 0, 300, 1);
        t.x.put(A, 0);
        t.turns(0, 3);
        t.isClient(0, 1, 1, 0, 1, 0, 0);
        t.turns(0, 0, 1);
    }

    private static void turnAnswers() {
        PromiseTest t = new PromiseTest("11 turn");
        for (int w : WRONG) {
            t.due("turn(wrong)", t.x.turn(w), NONE);
        }
        t.due("turn(8)", t.x.turn(8), NONE);
        t.turns(0, 5);
        t.addText(0, "q=a;r=b;c=q+r;");
        t.x.put(A, 1);
        t.turns(0, 0);
        t.isClient(0, 2, 1, 0, 0, 1, 1, 0, 0, 0);
        t.x.put(B, 2);
        t.turns(0, 0);
        t.due("b is that of now", t.x.sees(0, R), 2);
        t.turns(0, 0);
        t.isClient(0, 2, 1, 0, 0, 3, 3, 4, 0, 0);
        t.x.put(B, 3);
        t.turns(0, 3);
        t.isClient(0, 1, 1, 0, 1, 0, 0, 0, 0, 0);
        t.turns(0, 0);
        t.x.put(A, 1);
        t.turns(0, 3);
        t.isClient(0, 1, 1, 0, 2, 0, 0, 0, 0, 0);
        t.turns(0, 0, 0, 0, 1, 5);
        t.isCells(1, 3, 4);
        t.isRow(4, 0, 1, 0, 0, 4, 2);

        t = new PromiseTest("11 what is read stays as it was");
        t.addText(0, "q=a;b=a;");
        t.turns(0, 0);
        t.x.put(A, 5);
        t.turns(0, 0);
        t.due("sees b", t.x.sees(0, B), 0);
        t.turns(0, 3);

        t = new PromiseTest("11 what is written is not read");
        t.addText(0, "a=4;b=a+a;");
        t.turns(0, 0);
        t.x.put(A, 5);
        t.turns(0, 0);
        t.isClient(0, 2, 1, 0, 0, 2, 0, 3);
        t.turns(0, 1);
        t.isCells(4, 8);
        t.due("version", t.x.version(A), 2);

        t = new PromiseTest("11 what is read stays through try and either");
        t.addText(0, "try{c=a;throw 1;}catch q{}either{d=b;retry;}or{}");
        t.turns(0, 0, 0);
        t.isClient(0, 2, 1, 0, 0, 2, 1, 4);
        t.turns(0, 0);
        t.isClient(0, 2, 1, 0, 0, 3, 1, 0);
        t.turns(0, 0, 0, 0);
        t.isClient(0, 2, 1, 0, 0, 6, 3, 0);
        t.x.put(B, 0);
        t.turns(0, 3);

        t = new PromiseTest("11 cut in place of thrown");
        t.addText(0, "q=a;throw 1;");
        t.turns(0, 0);
        t.x.put(A, 0);
        t.turns(0, 3, 0, 2);
        t.isRow(1, 1, 2, 0, 0, 2, 1);
    }

    private static void waiting() {
        PromiseTest t = new PromiseTest("11 waiting");
        t.addText(0, "z=1;b=1;always 1;if(a=0){retry;}b=a;");
        t.turns(0, 0, 0, 0, 0, 4);
        t.isClient(0, 3, 1, 0, 0, 0, 1, 0, 0, 0);
        t.due("sees b", t.x.sees(0, B), 0);
        t.due("sees z", t.x.sees(0, Z), 0);
        t.x.put(B, 6);
        t.turns(0, 4, 4);
        t.x.put(A, 7);
        t.turns(0, 0);
        t.isClient(0, 2, 1, 0, 0, 1, 0, 0, 0, 0);
        t.turns(0, 0, 0, 0, 0, 1);
        t.isCells(7, 7);
        t.isRow(2, 0, 1, 0, 0, 6, 0);

        t = new PromiseTest("11 cut in place of waiting");
        t.addText(0, "if(a=0){retry;}");
        t.turns(0, 0);
        t.x.put(A, 0);
        t.turns(0, 3);
        t.isClient(0, 1, 1, 0, 1, 0, 0);
        t.turns(0, 0, 4, 4);
        t.isClient(0, 3, 1, 0, 1, 0, 1);
        t.x.put(A, 0);
        t.turns(0, 0, 4, 4);
        t.isClient(0, 3, 1, 0, 1, 0, 1);

        t = new PromiseTest("11 waiting for nothing");
        t.addText(0, "retry;");
        t.turns(0, 4);
        for (int i = 0; i < 16; i++) {
            t.x.put(i, 1);
        }
        t.turns(0, 4);
        t.isClient(0, 3, 1, 0, 0, 0, 0);

        t = new PromiseTest("11 waiting for both ways");
        t.addText(0, "either{if(a=0){retry;}}or{if(b=0){retry;}}");
        t.turns(0, 0, 0, 0, 0, 4);
        t.isClient(0, 3, 1, 0, 0, 0, 3);
        t.x.put(B, 1);
        t.turns(0, 0, 0, 0, 0, 1);
    }

    private static void urgent() {
        PromiseTest t = new PromiseTest("11 urgent and held");
        t.addText(1, "c=1;");
        t.addText(2, "throw c;");
        t.addText(3, "");
        t.addText(4, "try{throw 1;}catch q{}retry;");
        t.addText(5, "q=c;r=d;");
        t.text("b=a;");
        t.turns(5, 0);
        int b = 5;
        t.x.add(0, b);
        for (int i = 1; i <= 4; i++) {
            t.turns(0, 0);
            t.x.put(A, i);
            t.turns(0, 3);
        }
        t.isClient(0, 1, 1, b, 4, 0, 0, 0, 1, 0);
        t.turns(1, 0, 6, 6);
        t.isClient(1, 2, 1, 0, 0, 1, 0, 4, 0, 0);
        t.turns(2, 6);
        t.isClient(2, 1, 1, 1, 0, 0, 0, 0, 0, 0);
        t.turns(3, 6);
        t.isClient(3, 1, 1, 2, 0, 0, 0, 0, 0, 0);
        t.turns(4, 0, 0, 4);
        t.x.put(C, 9);
        t.turns(5, 3);
        t.turns(0, 0, 1);
        t.isClient(0, 0, 0, NONE, 0, 0, 0, 0, 0, 0);
        t.isRow(5, 0, 1, 0, b, 2, 4);
        t.turns(2, 2);
        t.isRow(6, 9, 2, 2, 1, 1, 0);
        t.turns(1, 1);
        t.turns(3, 1);
        t.due("replays", t.x.replays(), 1);

        t = new PromiseTest("11 urgent, a second time and two at once");
        t.makeUrgent();
        t.turns(0, 0);
        t.x.put(A, 0);
        t.turns(0, 3);
        t.isClient(0, 1, 1, 0, 5, 0, 0, 0, 1);
        t.x.add(1, 0);
        for (int i = 1; i <= 4; i++) {
            t.turns(1, 0);
            t.x.put(A, i);
            t.turns(1, 3);
        }
        t.turns(0, 0);
        t.turns(1, 0, 1);
        t.turns(0, 1);
        t.x.add(0, 0);
        t.isClient(0, 1, 1, 0, 0, 0, 0, 0, 0);
        new PromiseTest("11 urgent till it waits").urgentTillItWaits();
        new PromiseTest("11 held, and what was read").heldReads();
    }

    private void urgentTillItWaits() {
        addText(0, "if(a<9){retry;}b=a;");
        addText(1, "c=1;");
        for (int i = 1; i <= 4; i++) {
            turns(0, 0);
            x.put(A, i);
            turns(0, 3);
        }
        turns(1, 0, 6);
        turns(0, 0);
        isClient(0, 2, 1, 0, 4, 1, 1, 0, 1);
        turns(0, 4);
        isClient(0, 3, 1, 0, 4, 0, 1, 0, 0);
        turns(1, 1);
        x.put(A, 5);
        turns(0, 0);
        isClient(0, 2, 1, 0, 4, 1, 1, 0, 0);
        x.put(A, 6);
        turns(0, 3);
        isClient(0, 1, 1, 0, 5, 0, 0, 0, 1);
    }

    private void heldReads() {
        makeUrgent();
        addText(1, "q=c;throw q/d+e;");
        addText(2, "q=1/p;retry;");
        x.put(P, 1);
        turns(1, 0, 6);
        isClient(1, 2, 1, 1, 0, 1, 4);
        x.put(3, 2);
        turns(1, 6);
        isClient(1, 2, 1, 1, 0, 1, 4);
        turns(2, 0, 4);
        isClient(2, 3, 1, 2, 0, 0, 1 << P);
        x.put(P, 0);
        turns(2, 6);
        isClient(2, 3, 1, 2, 0, 0, 1 << P);
        turns(0, 0, 1);
        turns(2, 2);
        x.put(4, 8);
        turns(1, 2);
        due("the throw, worked anew", x.value(x.rows() - 1), 8);
    }

    private static void fullRows() {
        PromiseTest t = new PromiseTest("11 turns with 300 rows");
        t.addText(0, "a=1;");
        t.addText(1, "throw b;");
        t.addText(2, "if(b=0){retry;}");
        t.addText(3, "");
        t.addText(4, "q=b;");
        t.turns(4, 0);
        for (int i = 0; i < 299; i++) {
            t.x.put(P, i);
        }
        t.x.put(B, 0);
        t.turns(0, 0, NONE, NONE);
        t.isClient(0, 2, 1, 0, 0, 1, 0, 1);
        t.turns(1, NONE);
        t.isClient(1, 1, 1, 1, 0, 0, 0, 0);
        t.turns(2, 0, 4);
        t.isClient(2, 3, 1, 2, 0, 0, 2);
        t.turns(3, NONE);
        t.isClient(3, 1, 1, 3, 0, 0, 0, 0);
        t.turns(4, 3);
        t.turns(5, 5);
        t.due("rows", t.x.rows(), 300);
        t.due("cell", t.x.cell(A), 0);
        t.due("play", t.x.play(1, 2000), 0);
        t.due("row(300)", t.x.row(300, 0), NONE);
        t.due("value(300)", t.x.value(300), 0);
        t.due("replays", t.x.replays(), 1);
        t.due("clear", t.x.clear(), 300);
        t.due("put", t.x.put(0, 1), 1);
    }

    private static void theEnd() {
        PromiseTest t = new PromiseTest("11 rules at the end");
        t.due("done", t.does("always a<10;"), 1);
        t.due("rules", t.x.rules(), 1);
        t.due("against a rule", t.does("b=1;try{a=10;}catch q{a=1;}"), 2);
        t.isRow(1, -2, 2, 0, 1, 4, 0);
        t.isCells(0, 0);
        t.due("version", t.x.version(A), 0);
        t.due("with the cells as they would be", t.does("a=10;a=9;b=3;always b-2;"), 1);
        t.due("rules", t.x.rules(), 2);
        t.due("its own always", t.does("a=1;always a=2;"), 2);
        t.due("its own always, first", t.does("always b=4;b=4;c=2;"), 1);
        t.due("rules", t.x.rules(), 3);
        t.due("by 0", t.does("always 1/(c-2);"), 2);
        t.isRow(5, -2, 2, 0, 5, 2, 0);
        t.due("rules are not read", t.does("c=5;"), 1);
        t.due("rest by 0", t.does("always 1%p;"), 2);
        t.due("done", t.does("if(b=4){always d<1;}"), 1);
        t.due("rules", t.x.rules(), 4);
        t.due("replays", t.x.replays(), 1);

        t = new PromiseTest("11 what a run would have written is gone");
        t.due("done", t.does("b=3;"), 1);
        t.due("thrown", t.does("b=9;always b=3;"), 2);
        t.due("done", t.does("always b=3;"), 1);

        t = new PromiseTest("11 always is not worked there");
        t.addText(0, "always a/b;a=1;b=1;");
        t.turns(0, 0);
        t.isClient(0, 2, 1, 0, 0, 1, 0, 0, 0, 1);
        t.x.put(A, 3);
        t.turns(0, 0, 0, 1);
        t.due("rules", t.x.rules(), 1);

        t = new PromiseTest("11 32 rules");
        t.due("33 of one", t.does("q=33;while(q){always 1;q=q-1;}"), 2);
        t.due("rules", t.x.rules(), 0);
        t.due("32 of one", t.does("q=32;while(q){always p+1;q=q-1;}"), 1);
        t.due("rules", t.x.rules(), 32);
        t.due("the 33rd", t.does("a=1;always 1;"), 2);
        t.isRow(2, -2, 2, 0, 2, 3, 0);
        t.due("rules", t.x.rules(), 32);
        t.due("without one", t.does("a=1;"), 1);
        t.due("put", t.x.put(P, -1), -2);
        t.due("replays", t.x.replays(), 1);

        t = new PromiseTest("11 rules that came since");
        t.addText(0, "a=5;");
        t.addText(1, "always a=0;");
        t.turns(0, 0);
        t.turns(1, 0, 1);
        t.turns(0, 2);
        t.isRow(1, -2, 2, 0, 0, 2, 0);
    }

    private void fill() {
        String[] texts = {"a=a+1;", "q=a;b=b+q;", "if(b<5){retry;}b=b-5;", "either{if(c=0){retry;}c=c-1;}or{c=c+2;}", "throw a;"};
        for (String s : texts) {
            text(s);
        }
        for (int i = 0; i < 16; i++) {
            for (int c = 0; c < 8; c++) {
                x.add(c, (i + c) % texts.length);
            }
        }
    }

    private static void play() {
        long seed = -77;
        for (int n : new int[] {0, 1, 2, 7, 50, 120, 180}) {
            samePlay(seed, n);
            seed = seed * 31 + 5;
        }
        PromiseTest one = new PromiseTest("12 play, 2000 at once");
        PromiseTest two = new PromiseTest("12 play, 2000 in parts");
        one.fill();
        two.fill();
        int all = one.x.play(5, 2000);
        int parts = 0;
        long s = 5;
        for (int i = 0; i < 20; i++) {
            parts += two.x.play(s, 100);
            for (int k = 0; k < 100; k++) {
                s = 6364136223846793005L * s + 1442695040888963407L;
            }
        }
        one.due("play", all, parts);
        sameClients(one, two);
        one.due("rows came", one.x.rows() > 20 ? 1 : 0, 1);
        one.due("replays", one.x.replays(), 1);
        for (int n : new int[] {-1, 2001, LEAST, MOST}) {
            one.due("play(0, " + n + ")", one.x.play(0, n), NONE);
        }
        sameClients(one, two);
        firstDraws();
    }

    /** A play must come to the same as its turns, one by one. */
    private static void samePlay(long seed, int n) {
        PromiseTest one = new PromiseTest("12 play");
        PromiseTest two = new PromiseTest("12 turns");
        one.fill();
        two.fill();
        int got = one.x.play(seed, n);
        long s = seed;
        int done = 0;
        for (int i = 0; i < n; i++) {
            s = 6364136223846793005L * s + 1442695040888963407L;
            done += two.x.turn((int) (s >>> 61)) == 1 ? 1 : 0;
        }
        one.due("play(" + seed + ", " + n + ")", got, done);
        sameClients(one, two);
    }

    private static void sameClients(PromiseTest one, PromiseTest two) {
        for (int c = 0; c < 8; c++) {
            for (int what = 0; what < 9; what++) {
                one.due("client after play", one.x.client(c, what), two.x.client(c, what));
            }
        }
        one.due("rows", one.x.rows(), two.x.rows());
    }

    private static void firstDraws() {
        PromiseTest t = new PromiseTest("12 play, the first draws");
        t.text("");
        t.x.add(0, 0);
        t.due("seed 0 draws client 0 first: 1442695040888963407 is below 2 to the power of 61", t.x.play(0, 1), 1);
        t.x.add(7, 0);
        t.due("s becomes -1: client 7", t.x.play((-1 - 1442695040888963407L) * inverse(6364136223846793005L), 1), 1);
    }

    /** The number that gives 1 with an odd one, running over. */
    private static long inverse(long odd) {
        long y = odd;
        for (int i = 0; i < 6; i++) {
            y *= 2 - odd * y;
        }
        return y;
    }

    private static void clientAnswers() {
        PromiseTest t = new PromiseTest("13 client");
        t.addText(6, "a=b;p=c;always 1;always 2;q=o;");
        t.isClient(6, 1, 1, 0, 0, 0, 0, 0, 0, 0);
        t.turns(6, 0, 0, 0, 0, 0);
        t.isClient(6, 2, 1, 0, 0, 5, 2 + 4 + (1 << 14), 1 + (1 << 15), 0, 2);
        t.due("client(6, 9)", t.x.client(6, 9), NONE);
        t.due("client(8, 0)", t.x.client(8, 0), NONE);
        for (int w : WRONG) {
            t.due("client(wrong, 0)", t.x.client(w, 0), NONE);
            t.due("client(6, wrong)", t.x.client(6, w), NONE);
        }
        t.turns(6, 1);
        t.isClient(6, 0, 0, NONE, 0, 0, 0, 0, 0, 0);

        t = new PromiseTest("13 always taken back");
        t.addText(0, "always 1;try{always 2;throw 1;}catch q{}either{always 3;retry;}or{}");
        t.turns(0, 0, 0, 0);
        t.due("always", t.x.client(0, 8), 2);
        t.turns(0, 0);
        t.due("always", t.x.client(0, 8), 1);
        t.turns(0, 0, 0);
        t.due("always", t.x.client(0, 8), 2);
        t.turns(0, 0);
        t.due("always", t.x.client(0, 8), 1);
        t.turns(0, 1);
        t.due("rules", t.x.rules(), 1);
    }

    private static void sees() {
        PromiseTest t = new PromiseTest("14 sees");
        t.x.put(A, 1);
        t.x.put(B, 2);
        t.x.put(C, 3);
        t.due("without a run", t.x.sees(0, B), 2);
        t.due("without a run", t.x.sees(0, Q), 0);
        t.addText(0, "q=b;a=9;z=-1;a=a+1;throw 1;");
        t.due("before it begins", t.x.sees(0, A), 1);
        t.turns(0, 0, 0, 0);
        t.x.put(A, 11);
        t.x.put(B, 12);
        t.x.put(C, 13);
        t.due("written", t.x.sees(0, A), 9);
        t.due("read", t.x.sees(0, B), 2);
        t.due("the cell now", t.x.sees(0, C), 13);
        t.due("a local", t.x.sees(0, Q), 2);
        t.due("a local", t.x.sees(0, R), 0);
        t.due("a local", t.x.sees(0, Z), -1);
        t.due("another client", t.x.sees(1, A), 11);
        t.due("it is not read by this", t.x.client(0, 5), 2);
        for (int w : new int[] {-1, 26, Integer.MIN_VALUE, Integer.MAX_VALUE}) {
            t.due("sees(0, wrong)", t.x.sees(0, w), 0);
            t.due("sees(wrong, 0)", t.x.sees(w < 0 ? w : w - 18, 0), 0);
        }
        t.due("sees(8, 0)", t.x.sees(8, 0), 0);
        t.turns(0, 0, 3);
        t.due("after a cut", t.x.sees(0, A), 11);
        t.due("after a cut", t.x.sees(0, Q), 0);
        t.turns(0, 0);
        t.due("a new run's local", t.x.sees(0, Z), 0);
    }

    private static void tellsRows() {
        PromiseTest t = new PromiseTest("15 rules, 16 rows, 17 row, 18 value");
        t.due("rules", t.x.rules(), 0);
        t.x.put(5, -9);
        t.addText(2, "a=1;always a;");
        t.turns(2, 0, 0, 1);
        t.addText(7, "throw -a;");
        t.turns(7, 2);
        t.due("rows", t.x.rows(), 3);
        t.due("rules", t.x.rules(), 1);
        t.isRow(0, -9, 0, NONE, 5, 0, 0);
        t.isRow(1, 0, 1, 2, 0, 3, 0);
        t.isRow(2, -1, 2, 7, 1, 1, 0);
        t.due("row(3, 0)", t.x.row(3, 0), NONE);
        t.due("row(0, 5)", t.x.row(0, 5), NONE);
        t.due("value(3)", t.x.value(3), 0);
        for (int w : WRONG) {
            t.due("row(wrong, 0)", t.x.row(w, 0), NONE);
            t.due("row(0, wrong)", t.x.row(0, w), NONE);
            t.due("value(wrong)", t.x.value(w), 0);
        }
        t.x.put(A, 0);
        t.due("a put that a rule forbids is no row", t.x.rows(), 3);
    }

    private static void replays() {
        PromiseTest t = new PromiseTest("19 replays");
        t.fill();
        t.due("replays", t.x.replays(), 1);
        for (int i = 0; i < 12; i++) {
            t.x.play(i, 40);
            t.x.put(i % 4, i);
            t.due("replays", t.x.replays(), 1);
        }
        t.x.clear();
        t.due("replays after clear", t.x.replays(), 1);
        t.x.put(A, 2);
        t.due("replays", t.x.replays(), 1);
        t.due("done", t.does("always a;b=b+a;"), 1);
        t.due("thrown", t.does("a=0;"), 2);
        t.due("thrown", t.does("while(a){}"), 2);
        t.due("replays", t.x.replays(), 1);
    }

    private static void clear() {
        PromiseTest t = new PromiseTest("20 clear");
        t.makeUrgent();
        t.addText(1, "always a;q=7;c=3;");
        t.addText(2, "if(c=0){retry;}");
        t.addText(3, "always 5;");
        t.turns(0, 0, 1);
        t.turns(3, 0, 1);
        t.turns(2, 0, 4);
        t.turns(1, 0, 0, 0);
        t.x.add(0, 0);
        for (int i = 1; i <= 4; i++) {
            t.turns(0, 0);
            t.x.put(A, i);
            t.turns(0, 3);
        }
        t.text("a=1;b");
        t.feedAll("c=8;                ");
        int rows = t.x.rows();
        t.due("rows", rows, 10);
        t.due("clear", t.x.clear(), rows);
        t.due("clear again", t.x.clear(), 0);
        for (int i = 0; i < 16; i++) {
            t.due("cell", t.x.cell(i), 0);
            t.due("version", t.x.version(i), 0);
        }
        for (int c = 0; c < 8; c++) {
            t.isClient(c, 0, 0, NONE, 0, 0, 0, 0, 0, 0);
            t.due("sees", t.x.sees(c, Q), 0);
            t.turns(c, 5);
        }
        t.due("rules", t.x.rules(), 0);
        t.due("rows", t.x.rows(), 0);
        t.due("row", t.x.row(0, 0), NONE);
        t.due("value", t.x.value(0), 0);
        t.due("place", t.x.place(), NONE);
        t.due("texts stay", t.x.told(3, 0), 1);
        t.due("the tape stays", t.x.end(4), 4);
        t.due("text", t.x.text(), 4);
        t.x.add(1, 4);
        t.turns(1, 0, 1);
        t.isCells(0, 0, 8);
        t.due("replays", t.x.replays(), 1);
    }

    public static void main(String[] args) {
        newObject();
        feed();
        end();
        text();
        place();
        told();
        put();
        cells();
        add();
        exps();
        statements();
        tooLong();
        turnAnswers();
        waiting();
        urgent();
        fullRows();
        theEnd();
        play();
        clientAnswers();
        sees();
        tellsRows();
        replays();
        clear();
        finish();
    }
}
