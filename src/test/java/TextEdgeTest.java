import java.util.HashSet;
import java.util.Set;
import java.util.regex.Matcher;
import java.util.regex.Pattern;

/**
 * The edges of chapter 1 (TEXTS) and of the promises 1 to 6: each test bears the sentence of the document that names
 * the edge.
 */
public final class TextEdgeTest extends Bench {
    private TextEdgeTest(String sentence) {
        super(sentence);
    }

    /** A text that is right, on an object of its own. */
    private static void right(String sentence, String s) {
        TextEdgeTest t = new TextEdgeTest(sentence);
        t.due("text of " + s, t.text(s), 0);
        t.due("place in " + s, t.x.place(), NONE);
    }

    /** A text whose fault lies there, on an object of its own. */
    private static void fault(String sentence, String s, int at) {
        TextEdgeTest t = new TextEdgeTest(sentence);
        t.due("text of " + s, t.text(s), -2);
        t.due("place in " + s, t.x.place(), at);
        t.due("told of " + s, t.x.told(0, 0), NONE);
    }

    /** A text that is right or has its fault there, if that is not NONE. */
    private static void read(String sentence, String s, int at) {
        if (at == NONE) {
            right(sentence, s);
        } else {
            fault(sentence, s, at);
        }
    }

    /** What cell a is when the exp has come into it; p is put first. */
    private static void gives(String sentence, String exp, long p, long want) {
        TextEdgeTest t = new TextEdgeTest(sentence);
        t.x.put(P, p);
        t.due("a run of a=" + exp, t.does("a=" + exp + ";"), 1);
        t.due(exp + " with p = " + p, t.x.cell(A), want);
    }

    private static void letters() {
        String s = "CELLS are a .. p, LOCALS q .. z (letters alone)";
        for (int letter = 0; letter < 26; letter++) {
            TextEdgeTest t = new TextEdgeTest(s);
            t.addText(0, (char) ('a' + letter) + "=7;");
            t.turns(0, 0);
            t.due("sees", t.x.sees(0, letter), 7);
            t.due("written", t.x.client(0, 6), letter < 16 ? 1 << letter : 0);
            t.turns(0, 1);
            t.due("cell", t.x.cell(letter), letter < 16 ? 7 : 0);
        }
        for (int letter = 0; letter < 26; letter++) {
            TextEdgeTest t = new TextEdgeTest(s);
            t.addText(0, "q=" + (char) ('a' + letter) + ";");
            t.turns(0, 0);
            t.due("read", t.x.client(0, 5), letter < 16 ? 1 << letter : 0);
        }
        fault(s, "aa=1;", 0);
        fault(s, "a=pp;", 2);
        fault(s, "a=zq;", 2);
    }

    private static void words() {
        String s = "WORDS are rows of two and more small letters";
        right(s, "if(1){}");
        right(s, "either{}or{}");
        fault(s, "i(1){}", 1);
        fault(s, "If(1){}", 0);
        fault(s, "iF(1){}", 1);
        fault(s, "IF(1){}", 0);
        s = "a word that is none of those";
        for (String word : new String[] {"fi", "iff", "whil", "whiles", "retr", "retryy", "thro", "throws", "eithe", "eithers",
            "tr", "tryy", "alway", "alwayss", "do", "then", "and", "xx", times(700, "a")}) {
            fault(s, word + " 1;", 0);
            fault(s, "a=1; " + word + " 1;", 5);
            fault(s, "a=" + word + ";", 2);
        }
        fault(s, "if(1){}els{}", 7);
        fault(s, "if(1){}elses{}", 7);
        fault(s, "either{}on{}", 8);
        fault(s, "either{}xor{}", 8);
        fault(s, "try{}catc q{}", 5);
        fault(s, "try{}catcher q{}", 5);
        s = "words of the document where they cannot stand";
        for (String word : new String[] {"else", "or", "catch"}) {
            fault(s, word + "{}", 0);
            fault(s, "a=1;" + word + "{}", 4);
        }
        for (String word : new String[] {"if", "else", "while", "retry", "throw", "either", "or", "try", "catch", "always"}) {
            fault(s, "a=" + word + ";", 2);
            fault(s, "a " + word + " 1;", 2);
            fault(s, "a=1 " + word + ";", 4);
        }
    }

    private static void numbers() {
        String s = "NUMBERS rows of digits, 9 at most";
        gives(s, "999999999", 0, 999999999L);
        gives(s, "123456789", 0, 123456789L);
        gives(s, "000000001", 0, 1);
        gives(s, "000000000", 0, 0);
        gives(s, "0", 0, 0);
        gives(s, "9", 0, 9);
        s = "(a longer row is none of them, as a whole)";
        fault(s, "a=1000000000;", 2);
        fault(s, "a=0000000000;", 2);
        fault(s, "a=0000000001;", 2);
        fault(s, "throw 1234567890;", 6);
        for (int digits : new int[] {10, 11, 18, 19, 20, 27, 64, 700}) {
            fault(s, "a=1+" + times(digits, "1") + ";", 4);
        }
        s = "both as long as can be";
        gives(s, "12", 0, 12);
        gives(s, "100-1", 0, 99);
        fault(s, "ifif(1){}", 0);
        fault(s, "either{}orr{}", 8);
        fault(s, "orelse", 0);
        fault(s, "retrya=1;", 0);
        fault(s, "try{}catchq{}", 5);
        fault(s, "alwaysa;", 0);
        s = "(a letter alone is one that stands between no others)";
        fault(s, "a1=1;", 1);
        fault(s, "aA=1;", 1);
        fault(s, "a=1b;", 3);
        fault(s, "a=b1;", 3);
        right(s, "a=b;");
        right(s, "throw1;");
        right(s, "q=1;throw-q;");
    }

    private static void blanks() {
        String s = "Blanks (32, 10) between tokens where needed";
        right(s, " a = 1 ; ");
        right(s, "\na\n=\n1\n;\n");
        right(s, "a=1;b=2;");
        right(s, "  \n\n  if \n ( a ) \n { \n } \n else \n { \n } ");
        right(s, "throw a;");
        fault(s, "throwa;", 0);
        fault(s, "wh ile(1){}", 0);
        fault(s, "a=1 2;", 4);
        fault(s, "a=b c;", 4);
        right(s, "a= 1\n;");
        for (int b = 0; b < 256; b++) {
            char c = (char) b;
            boolean blank = b == 32 || b == 10;
            boolean letter = b >= 'a' && b <= 'z';
            boolean digit = b >= '0' && b <= '9';
            boolean joins = "+-*/%<=#".indexOf(c) >= 0;
            s = "(another byte ..): " + b;
            read(s, "a=1;" + c, blank ? NONE : letter ? 5 : 4);
            read(s, "a=1" + c + ";", blank || digit ? NONE : joins || c == ';' ? 4 : 3);
            read(s, "a=" + c + "1;", blank || digit || c == '-' ? NONE : letter ? 3 : c == '(' ? 4 : 2);
            read(s, "a" + c + "=1;", blank ? NONE : letter ? 0 : c == '=' ? 2 : 1);
            read(s, "if(1)" + c + "{}", blank ? NONE : c == '{' ? 6 : 5);
            read(s, "retry" + c + ";", blank ? NONE : letter ? 0 : c == ';' ? 6 : 5);
        }
    }

    private static void ends() {
        String s = "or at the text's length";
        // Each | stands where the text may end.
        String marked = "|a=1;|if(a<1){q=-(b+2)*c/3%d#e;b=2-1=0;}|else{}|while(1){retry;}|either{throw 1;}or{}|try{always p;}catch z{}|";
        String all = marked.replace("|", "");
        Set<Integer> whole = new HashSet<>();
        int bars = 0;
        for (int i = 0; i < marked.length(); i++) {
            if (marked.charAt(i) == '|') {
                whole.add(i - bars);
                bars++;
            }
        }
        Matcher tokens = Pattern.compile("[a-z]+|[0-9]+|[^ ]").matcher(all);
        while (tokens.find()) {
            int at = tokens.end();
            read(s, all.substring(0, at), whole.contains(at) ? NONE : at);
            read(s, all.substring(0, at) + " \n", whole.contains(at) ? NONE : at + 2);
        }
        fault(s, "a=1" + times(797, " "), 800);
        fault(s, "a" + times(799, "\n"), 800);
        right(s, "a=1;" + times(796, " "));
        right(s, times(800, "\n"));
        s = "THE FAULT lies at the first byte of the first token that cannot stand there";
        fault(s, "a=;b=;", 2);
        fault(s, "=", 0);
        fault(s, "a=1;}", 4);
        fault(s, "a=1;  }", 6);
        fault(s, "}", 0);
        fault(s, "{}", 0);
        fault(s, ";", 0);
        fault(s, "1=1;", 0);
        fault(s, "a=1;;", 4);
        fault(s, "a=(1;", 4);
        fault(s, "a=1);", 3);
        fault(s, "a=();", 3);
        fault(s, "a=(1)2;", 5);
        fault(s, "a=(1)(2);", 5);
        fault(s, "if(1);", 5);
        fault(s, "if(){}", 3);
        fault(s, "if 1{}", 3);
        fault(s, "if(1){}};", 7);
        fault(s, "while(1){}else{}", 10);
        fault(s, "retry a;", 6);
        fault(s, "throw;", 5);
        fault(s, "always;", 6);
        fault(s, "either{}else{}", 8);
        fault(s, "try{}or{}", 5);
    }

    private static void statements() {
        String s = "A TRANSACTION: {statement}";
        for (String empty : new String[] {"", " ", "\n", " \n \n"}) {
            TextEdgeTest t = new TextEdgeTest(s);
            t.due("an empty text", t.text(empty), 0);
            t.due("statements", t.x.told(0, 0), 0);
            t.x.add(0, 0);
            t.turns(0, 1, 5);
        }
        s = "40 statements at most";
        TextEdgeTest t = new TextEdgeTest(s);
        t.due("40 in a row", t.text(times(40, "q=1;")), 0);
        t.due("statements", t.x.told(0, 0), 40);
        t.due("40, of which 39 lie in bodies", t.text("if(1){" + times(19, "retry;") + "}else{" + times(20, "retry;") + "}"), 1);
        t.due("statements", t.x.told(1, 0), 40);
        t.due("40 in a body each", t.text(times(20, "either{retry;}or{}")), 2);
        t.due("statements", t.x.told(2, 0), 40);
        s = "the 41st statement's first token";
        for (String more : new String[] {"q=1;", "if(1){}", "while(1){}", "retry;", "throw 1;", "either{}or{}", "try{}catch q{}", "always 1;"}) {
            right(s, times(39, "q=1;") + more);
            fault(s, times(40, "q=1;") + more, 160);
            fault(s, times(40, "q=1;") + " \n" + more, 162);
        }
        fault(s, "if(1){" + times(40, "q=1;") + "}", 6 + 39 * 4);
        fault(s, times(39, "q=1;") + "if(1){}else{retry;}", 156 + 12);
        fault(s, times(39, "q=1;") + "either{}or{q=1;}", 156 + 11);
        fault(s, times(40, "q=1;") + "q;", 160);
        right(s, times(39, "q=1;") + "if(1){}");
    }

    private static void bodies() {
        String[] open = {"if(1){", "if(1){}else{", "while(1){", "either{", "either{}or{", "try{", "try{}catch q{"};
        String[] close = {"}", "}", "}", "}or{}", "}", "}catch q{}", "}"};
        String s = "within one another 8 at most";
        for (int kind = 0; kind < open.length; kind++) {
            for (int deep = 1; deep <= 8; deep++) {
                TextEdgeTest t = new TextEdgeTest(s);
                t.due("text", t.text(times(deep, open[kind]) + times(deep, close[kind])), 0);
                t.due("bodies within one another", t.x.told(0, 2), deep);
            }
            right(s, times(8, open[kind]) + "a=1;retry;" + times(8, close[kind]));
            right(s, times(8, open[kind]) + times(8, close[kind]) + times(8, open[kind]) + times(8, close[kind]));
        }
        right(s, times(20, "if(1){}"));
        s = "the ninth body's brace";
        for (int outer = 0; outer < open.length; outer++) {
            for (int kind = 0; kind < open.length; kind++) {
                String eight = times(8, open[outer]);
                fault(s, eight + open[kind] + close[kind] + times(8, close[outer]), eight.length() + open[kind].indexOf('{'));
            }
        }
        fault(s, times(8, "if(1){") + "if(1) \n {}" + times(8, "}"), 48 + 8);
        fault(s, times(8, "if(1){") + "if(1)" + times(8, "}"), 48 + 5);
        s = "a second body that is the ninth";
        right(s, times(7, "if(1){") + "if(1){}else{}" + times(7, "}"));
        right(s, times(7, "if(1){") + "try{}catch q{}either{}or{}" + times(7, "}"));
    }

    private static void optionalParts() {
        String s = "if ( exp ) body [else body]";
        right(s, "if(1){}");
        right(s, "if(1){}else{}");
        right(s, "if(1){if(1){}else{}}else{if(1){}}");
        fault(s, "if(1){}else", 11);
        fault(s, "if(1){}else a=1;", 12);
        fault(s, "if(1){}else if(1){}", 12);
        fault(s, "if(1){}else{}else{}", 13);
        s = "either body or body: both must be";
        fault(s, "either{}", 8);
        fault(s, "either{}a=1;", 8);
        fault(s, "either{}or a=1;", 11);
        s = "try body catch LOCAL body";
        for (char c = 'a'; c <= 'z'; c++) {
            read(s, "try{}catch " + c + "{}", c < 'q' ? 11 : NONE);
        }
        fault(s, "try{}catch{}", 10);
        fault(s, "try{}catch qq{}", 11);
        fault(s, "try{}catch 1{}", 11);
        fault(s, "try{}catch q", 12);
        s = "exp: sum [(< = #) sum]";
        for (String one : new String[] {"<", "=", "#"}) {
            right(s, "a=1" + one + "2;");
            fault(s, "a=1" + one + ";", 4);
            fault(s, "a=" + one + "1;", 2);
            for (String two : new String[] {"<", "=", "#"}) {
                fault(s, "a=1" + one + "2" + two + "3;", 5);
                right(s, "a=(1" + one + "2)" + two + "3;");
            }
        }
        s = "sum: product {(+ -) product}   product: unary {(* / %) unary}";
        for (String one : new String[] {"+", "-", "*", "/", "%"}) {
            right(s, "a=1" + times(59, one + "1") + ";");
            fault(s, "a=1" + one + ";", 4);
            fault(s, "a=1" + one + "+1;", 4);
            fault(s, "a=1" + one + "*1;", 4);
        }
    }

    private static void unariesWithin() {
        String s = "within one another (- and parentheses) 8 at most: the - or parenthesis of the ninth";
        // A bit says what each of them is.
        for (int bits = 0; bits < 512; bits++) {
            String eight = "";
            String closed = "";
            for (int i = 0; i < 8; i++) {
                boolean minus = (bits >> i & 1) != 0;
                eight += minus ? "-" : "(";
                closed += minus ? "" : ")";
            }
            boolean minus = (bits >> 8 & 1) != 0;
            if (minus) {
                right(s, "a=" + eight + "1" + closed + ";");
            }
            fault(s, "a=" + eight + (minus ? "-1" : "(1)") + closed + ";", 10);
        }
        right(s, "a=" + times(8, "-") + "1*" + times(8, "-") + "1+" + times(8, "(") + "1" + times(8, ")") + ";");
        right(s, "a=(1+(1*(1<(1+(1*(1=(1-(1))))))));");
        fault(s, "a=(1+(1*(1<(1+(1*(1=(1-(1+(1)))))))));", 26);
        for (String head : new String[] {"if(", "while(", "throw ", "always "}) {
            String tail = head.endsWith("(") ? "){}" : ";";
            right(s, head + times(8, "(") + "1" + times(8, ")") + tail);
            fault(s, head + times(9, "(") + "1" + times(9, ")") + tail, head.length() + 8);
        }
    }

    private static void sixtyUnaries() {
        String s = "60 unaries in a text";
        TextEdgeTest t = new TextEdgeTest(s);
        t.due("60 in one exp", t.text("a=1" + times(59, "+1") + ";"), 0);
        t.due("unaries", t.x.told(0, 1), 60);
        t.due("60 in 30 statements", t.text(times(30, "a=1*b;")), 1);
        t.due("unaries", t.x.told(1, 1), 60);
        t.due("each - is one", t.text(times(15, "a=---1;")), 2);
        t.due("unaries", t.x.told(2, 1), 60);
        t.due("each parenthesis is one", t.text(times(20, "a=((1));")), 3);
        t.due("unaries", t.x.told(3, 1), 60);
        t.due("those of all statements", t.text("if(1){throw 1;}while(1){always 1;}a=1;"), 4);
        t.due("unaries", t.x.told(4, 1), 5);
        s = "the 61st unary's first token";
        String full = times(30, "a=1*b;");
        for (String more : new String[] {"a=", "if(", "while(", "throw ", "always "}) {
            for (String unary : new String[] {"1", "b", "-1", "(1)", "-", ";"}) {
                fault(s, full + more + unary, 180 + more.length());
            }
        }
        right(s, full + "retry;either{}or{}try{}catch q{}");
        for (String join : new String[] {"+", "-", "*", "/", "%", "<", "=", "#"}) {
            fault(s, "a=1" + times(59, "+1") + join + "1;", 122);
        }
        fault(s, "a=1" + times(58, "+1") + "+-1;", 121);
        fault(s, "a=1" + times(58, "+1") + "+(1);", 121);
        right(s, "a=1" + times(57, "+1") + "+-1;");
        right(s, "a=1" + times(57, "+1") + "+(1);");
        fault(s, "a=1" + times(59, "+1") + "+;", 122);
        right("60 unaries are those of one text", "a=1" + times(59, "+1") + ";");
    }

    private static void values() {
        String s = "# : unlike; < = # give 1 or 0";
        gives(s, "1<2", 0, 1);
        gives(s, "2<1", 0, 0);
        gives(s, "2<2", 0, 0);
        gives(s, "2=2", 0, 1);
        gives(s, "2=3", 0, 0);
        gives(s, "2#3", 0, 1);
        gives(s, "2#2", 0, 0);
        gives(s, "p<-p-1", Long.MIN_VALUE, 1);
        gives(s, "-1<0", 0, 1);
        gives(s, "p<0", Long.MIN_VALUE, 1);
        gives(s, "0<p", Long.MAX_VALUE, 1);
        s = "64 bits, running over";
        gives(s, "p+1", Long.MAX_VALUE, Long.MIN_VALUE);
        gives(s, "p-1", Long.MIN_VALUE, Long.MAX_VALUE);
        gives(s, "p*2", Long.MAX_VALUE, -2);
        gives(s, "p*p", 1L << 32, 0);
        gives(s, "-p", Long.MIN_VALUE, Long.MIN_VALUE);
        gives(s, "0-p", Long.MIN_VALUE, Long.MIN_VALUE);
        gives(s, "p*-1", Long.MIN_VALUE, Long.MIN_VALUE);
        gives(s, "999999999*999999999", 0, 999999998000000001L);
        gives(s, "p+1", 2147483647L, 2147483648L);
        s = "/ towards 0";
        gives(s, "7/2", 0, 3);
        gives(s, "-7/2", 0, -3);
        gives(s, "7/-2", 0, -3);
        gives(s, "-7/-2", 0, 3);
        gives(s, "1/2", 0, 0);
        gives(s, "-1/2", 0, 0);
        gives(s, "7%2", 0, 1);
        gives(s, "-7%2", 0, -1);
        gives(s, "7%-2", 0, 1);
        gives(s, "-7%-2", 0, -1);
        s = "the least number by -1 is itself, its rest 0";
        gives(s, "p/-1", Long.MIN_VALUE, Long.MIN_VALUE);
        gives(s, "p%-1", Long.MIN_VALUE, 0);
        gives(s, "p/-1", Long.MIN_VALUE + 1, Long.MAX_VALUE);
        gives(s, "p/1", Long.MIN_VALUE, Long.MIN_VALUE);
        s = "products bind before sums, sums before < = #, and each row from the left";
        gives(s, "1+2*3", 0, 7);
        gives(s, "2*3+1", 0, 7);
        gives(s, "10-3-2", 0, 5);
        gives(s, "10-3+2", 0, 9);
        gives(s, "100/10/5", 0, 2);
        gives(s, "100/10*5", 0, 50);
        gives(s, "7%4*2", 0, 6);
        gives(s, "1+1<1+2", 0, 1);
        gives(s, "(1+2)*3", 0, 9);
        gives(s, "-2*3", 0, -6);
        gives(s, "2*-3", 0, -6);
        gives(s, "2--3", 0, 5);
        gives(s, "(1<2)+(3<4)", 0, 2);
        gives(s, "--------5", 0, 5);
        gives(s, "((((((((5))))))))", 0, 5);
    }

    private static void always() {
        String s = "In always no LOCALS";
        for (char c = 'a'; c <= 'z'; c++) {
            read(s, "always " + c + ";", c < 'q' ? NONE : 7);
            read(s, "always 1+(a*-" + c + ");", c < 'q' ? NONE : 13);
        }
        right(s, "always a;b=q;");
        right(s, "q=z;always p;r=q;");
        right(s, "if(1){always a;}if(q){}");
        right(s, "always a;while(q){}throw q;");
        s = "(its exp is not worked there, nor READ)";
        TextEdgeTest t = new TextEdgeTest(s);
        t.addText(0, "always 1/a;a=1;");
        t.turns(0, 0);
        t.isClient(0, 2, 1, 0, 0, 1, 0, 0, 0, 1);
        t.x.put(A, 4);
        t.turns(0, 0, 1);
        t.due("rules", t.x.rules(), 1);
    }

    private static void newObject() {
        TextEdgeTest t = new TextEdgeTest("Promise 1: CELLS 0, no TRANSACTIONS, RULES, ROWS; an empty tape");
        for (int i = 0; i < 16; i++) {
            t.due("cell", t.x.cell(i), 0);
            t.due("version", t.x.version(i), 0);
        }
        for (int c = 0; c < 8; c++) {
            t.isClient(c, 0, 0, NONE, 0, 0, 0, 0, 0, 0);
            t.turns(c, 5);
        }
        t.due("told", t.x.told(0, 0), NONE);
        t.due("add", t.x.add(0, 0), NONE);
        t.due("rules", t.x.rules(), 0);
        t.due("rows", t.x.rows(), 0);
        t.due("row", t.x.row(0, 0), NONE);
        t.due("place", t.x.place(), NONE);
        t.due("replays", t.x.replays(), 1);
        t.due("the tape has not 20", t.x.end(0), NONE);
        t.due("feed", t.x.feed(0, 0, 0, 0, 0), 20);
        new TextEdgeTest("Promise 1: an object of its own").ownObject();
    }

    private void ownObject() {
        Counted other = new Counted();
        other.put(A, 5);
        other.feed(0x613d313b, 0x20202020, 0x20202020, 0x20202020, 0x20202020);
        other.text();
        other.feed(0, 0, 0, 0, 0);
        isCells(0);
        due("told", x.told(0, 0), NONE);
        due("feed", x.feed(0, 0, 0, 0, 0), 20);
        due("rows", x.rows(), 0);
    }

    private static void feed() {
        TextEdgeTest t = new TextEdgeTest("Promise 2: Twenty bytes come to the tape, the first number's highest one first");
        // a=12-b*3<(c%4);b=90;
        t.due("feed", t.x.feed(0x613d3132, 0x2d622a33, 0x3c286325, 0x34293b62, 0x3d39303b), 20);
        t.due("text", t.x.text(), 0);
        t.due("statements", t.x.told(0, 0), 2);
        t.x.put(C, 7);
        t.x.add(0, 0);
        t.turns(0, 0, 0, 1);
        t.isCells(0, 90);
        for (int at = 0; at < 20; at++) {
            int[] f = {0x20202020, 0x20202020, 0x20202020, 0x20202020, 0x20202020};
            f[at / 4] |= 0xff << 24 - at % 4 * 8;
            t.due("feed", t.x.feed(f[0], f[1], f[2], f[3], f[4]), 20);
            t.due("text", t.x.text(), -2);
            t.due("place of byte 255", t.x.place(), at);
        }
        t = new TextEdgeTest("Promise 2: how many it has");
        for (int i = 1; i <= 40; i++) {
            t.due("feed", t.x.feed(0, 0, 0, 0, 0), 20 * i);
        }
        String s = "Promise 2: NONE (none comes): it would have more than 800";
        t.due(s, t.x.feed(0, 0, 0, 0, 0), NONE);
        t.due("none came", t.x.end(20), 800);
        for (int n = 0; n <= 20; n++) {
            t = new TextEdgeTest(s);
            t.feedAll(times(800, " "));
            t.due("end", t.x.end(n), 780 + n);
            t.due("feed to " + (780 + n), t.x.feed(0x61616161, 0x61616161, 0x61616161, 0x61616161, 0x61616161), n == 0 ? 800 : NONE);
            t.due("how many", t.x.end(20), n == 0 ? 800 : 780 + n);
            t.due("text", t.x.text(), n == 0 ? -2 : 0);
            t.due("place", t.x.place(), n == 0 ? 780 : NONE);
        }
    }

    private static void end() {
        String s = "Promise 3: Of the last 20 bytes only the first n stay";
        for (int n = 0; n <= 20; n++) {
            TextEdgeTest t = new TextEdgeTest(s);
            t.x.feed(0x20202020, 0x20202020, 0x20202020, 0x20202020, 0x20202020);
            t.x.feed(0x613d313b, 0x613d313b, 0x613d313b, 0x613d313b, 0x613d313b);
            t.due("end", t.x.end(n), 20 + n);
            t.due("text", t.x.text(), n % 4 == 0 ? 0 : -2);
            t.due("place", t.x.place(), n % 4 == 0 ? NONE : 20 + n);
            t.due("statements", t.x.told(0, 0), n % 4 == 0 ? n / 4 : NONE);
        }
        TextEdgeTest t = new TextEdgeTest("Promise 3: NONE: n is not 0 .. 20");
        t.x.feed(0, 0, 0, 0, 0);
        for (int n : new int[] {-1, 21, -20, 40, LEAST, MOST}) {
            t.due("end(" + n + ")", t.x.end(n), NONE);
        }
        t.due("nothing was done", t.x.end(20), 20);
        t.due("end(0)", t.x.end(0), 0);
        t = new TextEdgeTest("Promise 3: NONE: there are not 20");
        for (int n : new int[] {0, 1, 20}) {
            t.due("end(" + n + ") of none", t.x.end(n), NONE);
        }
        t.x.feed(0, 0, 0, 0, 0);
        t.due("end of 20", t.x.end(19), 19);
        for (int n : new int[] {0, 18, 19, 20}) {
            t.due("end(" + n + ") of 19", t.x.end(n), NONE);
        }
        t.due("feed", t.x.feed(0, 0, 0, 0, 0), 39);
        t.due("end of 39", t.x.end(1), 20);
        t.due("end of 20", t.x.end(20), 20);
        t.due("end of 20", t.x.end(0), 0);
    }

    private static void text() {
        TextEdgeTest t = new TextEdgeTest("Promise 4: its number, from 0; -2 with a FAULT; and is empty then");
        for (int i = 0; i < 12; i++) {
            t.due("a fault takes no number", t.text("a"), -2);
            t.due("the tape is empty", t.x.feed(0x613d313b, 0x20202020, 0x20202020, 0x20202020, 0x20202020), 20);
            t.due("text", t.x.text(), i);
            t.due("the tape is empty", t.x.end(0), NONE);
        }
        t.due("told", t.x.told(11, 0), 1);
        t = new TextEdgeTest("Promise 4: NONE: there are 12 (it is not read, and stays)");
        for (int i = 0; i < 12; i++) {
            t.due("text", t.text("a=1;"), i);
        }
        t.due("of an empty tape", t.x.text(), NONE);
        t.feedAll("b=1;  b=2;  b=3;    ");
        t.due("text", t.x.text(), NONE);
        t.due("text again", t.x.text(), NONE);
        t.due("it stays", t.x.end(20), 20);
        t.due("feed", t.x.feed(0, 0, 0, 0, 0), 40);
        t.due("text with a fault", t.x.text(), NONE);
        t.due("it is not read", t.x.place(), NONE);
        t.due("told", t.x.told(12, 0), NONE);
        t.due("add", t.x.add(0, 12), NONE);
        t.x.clear();
        t.due("texts stay in clear", t.x.text(), NONE);
    }

    private static void behindFaults() {
        TextEdgeTest t = new TextEdgeTest("Promise 4: -2 with a FAULT: nothing of it is left in the next text");
        String many = "a=1" + times(59, "+1") + ";";
        for (int i = 0; i < 6; i++) {
            t.due("a fault", t.text(many + "b"), -2);
        }
        t.due("done", t.does("b=2;" + "a=1" + times(50, "+1") + ";"), 1);
        t.isCells(51, 2);
        t.isVersions(1, 1);
        t = new TextEdgeTest("Promise 4: -2 with a FAULT: none of its bodies is left in the next text");
        t.due("a fault", t.text("if(0){a=1;}else{a=2;}if(1){a=3;}a=4;try{a=5;}catch q{a=6;}always 0;b"), -2);
        t.due("done", t.does("if(0){}if(1){}b=1;try{throw 1;}catch r{}c=r;"), 1);
        t.isCells(0, 1, 1);
        t.isRow(0, 0, 1, 0, 0, 7, 0);
        t.due("rules", t.x.rules(), 0);
        t = new TextEdgeTest("Promise 4: one text leaves nothing in the next, nor that in it");
        t.text("if(0){a=1;}else{a=2;}always a<3;");
        t.text("if(0){b=1;}");
        t.text("");
        for (int i : new int[] {1, 2, 0, 1}) {
            t.x.add(0, i);
        }
        t.turns(0, 0, 1, 1, 0, 0, 0, 1, 0, 1);
        t.isCells(2, 0);
    }

    private static void bytesBehind() {
        String s = "Promise 3: what end takes away is no part of the text";
        String[] fed = {"aaaaaaaaaaaaaaaaaaaa", "a=123456789000000000", "a=1;b=2;c=3;d=4;e=5;", "if(1){}else{a=1;}   ", "retryretry;         "};
        int[] stay = {1, 11, 3, 8, 5};
        int[] fault = {1, 11, 3, 8, 5};
        for (int i = 0; i < fed.length; i++) {
            TextEdgeTest t = new TextEdgeTest(s);
            t.feedAll(fed[i]);
            t.due("end", t.x.end(stay[i]), stay[i]);
            t.due("text of " + fed[i], t.x.text(), -2);
            t.due("place in " + fed[i], t.x.place(), fault[i]);
        }
        s = "or at the text's length, of 800 bytes";
        fault(s, times(797, " ") + "a=1", 800);
        fault(s, times(799, " ") + "a", 800);
        fault(s, times(798, " ") + "aa", 798);
        fault(s, times(794, " ") + "always", 800);
        fault(s, times(790, " ") + "1234567890", 790);
        fault(s, times(788, " ") + "a=1234567890", 790);
        right(s, times(796, " ") + "a=1;");
    }

    private static void place() {
        TextEdgeTest t = new TextEdgeTest("Promise 5: Where THE FAULT of the latest text() that was read lies; NONE");
        t.due("before all", t.x.place(), NONE);
        t.feedAll("a");
        t.due("of one that is not read yet", t.x.place(), NONE);
        t.due("text", t.x.text(), -2);
        t.due("place", t.x.place(), 1);
        t.due("place again", t.x.place(), 1);
        t.feedAll("a=1;");
        t.due("of the latest that was read", t.x.place(), 1);
        t.due("text", t.x.text(), 0);
        t.due("of one that is right", t.x.place(), NONE);
        t.text(";");
        t.due("at the first byte", t.x.place(), 0);
        t.text("");
        t.due("of an empty one", t.x.place(), NONE);
    }

    private void isTold(int number, int statements, int unaries, int bodies) {
        due("statements", x.told(number, 0), statements);
        due("unaries", x.told(number, 1), unaries);
        due("bodies", x.told(number, 2), bodies);
    }

    private static void told() {
        TextEdgeTest t = new TextEdgeTest("Promise 6: statements, unaries, how many bodies lie within one another at most");
        String[] texts = {"", "a=1;", "a=-(b);", "if(1){if(2){}}if(3){}", "either{}or{try{}catch q{retry;}}", "while(1){a=1;}always 2;"};
        int[][] want = {{0, 0, 0}, {1, 1, 0}, {1, 3, 0}, {3, 3, 2}, {3, 0, 2}, {3, 3, 1}};
        for (int i = 0; i < texts.length; i++) {
            t.text(texts[i]);
            t.text("if(1){if(1){if(1){a=1+1+1+1+1+1+1+1;");
        }
        for (int i = 0; i < texts.length; i++) {
            t.isTold(i, want[i][0], want[i][1], want[i][2]);
        }
        t = new TextEdgeTest("Promise 6: NONE: none such");
        t.due("without a text", t.x.told(0, 0), NONE);
        t.text("a=1;");
        t.text("b");
        for (int wrong : new int[] {-1, 1, 2, 11, 12, LEAST, MOST}) {
            for (int what = 0; what < 3; what++) {
                t.due("told(" + wrong + ", " + what + ")", t.x.told(wrong, what), NONE);
            }
        }
        for (int wrong : new int[] {-1, 3, 4, LEAST, MOST}) {
            t.due("told(0, " + wrong + ")", t.x.told(0, wrong), NONE);
        }
        t.isTold(0, 1, 1, 0);
    }

    public static void main(String[] args) {
        letters();
        words();
        numbers();
        blanks();
        ends();
        statements();
        bodies();
        optionalParts();
        unariesWithin();
        sixtyUnaries();
        values();
        always();
        newObject();
        feed();
        end();
        text();
        behindFaults();
        bytesBehind();
        place();
        told();
        finish();
    }
}
