import java.util.Random;

/** Random texts: most of them right, some with a fault. */
final class Texts {
    private final Random random;
    private final boolean small;
    private int statements;
    private int unaries;

    Texts(Random random, boolean small) {
        this.random = random;
        this.small = small;
    }

    String next() {
        for (int tries = 0; ; tries++) {
            statements = 1 + random.nextInt(small ? 7 : 42);
            unaries = 1 + random.nextInt(small ? 25 : 62);
            StringBuilder all = new StringBuilder();
            while (statements > 0 && unaries > 0 && (all.length() == 0 || random.nextInt(7) != 0)) {
                all.append(statement(0, false));
            }
            if (all.length() <= 800) {
                return all.toString();
            }
        }
    }

    /** A right text with some bytes changed, left out or put in. */
    String spoiled() {
        StringBuilder s = new StringBuilder(next());
        for (int n = 1 + random.nextInt(2); n > 0 && s.length() > 0; n--) {
            int at = random.nextInt(s.length());
            switch (random.nextInt(4)) {
                case 0: s.deleteCharAt(at); break;
                case 1: s.insert(at, pick("a", "q", "0", "(", ")", "-", "{", "}", ";", "=", "or", "else", "1234567890", "\t", "\u00e4")); break;
                case 2: s.setCharAt(at, (char) random.nextInt(256)); break;
                default: s.setLength(at); break;
            }
        }
        if (s.length() > 800) {
            s.setLength(800);
        }
        return s.toString();
    }

    private String pick(String... of) {
        return of[random.nextInt(of.length)];
    }

    private String blank() {
        return random.nextInt(4) == 0 ? pick(" ", "\n", "  ") : "";
    }

    private String body(int depth, boolean first) {
        StringBuilder s = new StringBuilder(blank() + "{");
        for (int n = random.nextInt(4); n > 0 && statements > 0; n--) {
            s.append(statement(depth + 1, first));
        }
        return s.append(blank()).append("}").append(blank()).toString();
    }

    private String cell() {
        return random.nextInt(12) == 0 ? pick("d", "o", "p") : pick("a", "b", "c");
    }

    private String local() {
        return pick("q", "r", "z");
    }

    private String statement(int depth, boolean inside) {
        statements--;
        boolean flat = depth >= (small ? 4 : 9) || random.nextInt(small ? 2 : 3) == 0;
        int kind = flat ? random.nextInt(10) : 10 + random.nextInt(8);
        switch (kind) {
            case 0: return "retry" + blank() + ";";
            case 1: return "throw " + exp(0, true) + ";";
            case 2: return random.nextInt(4) == 0 ? "always " + exp(0, false) + ";" : "always " + cell() + "<" + (3 + random.nextInt(100)) + ";";
            case 10: case 11: return "if" + blank() + "(" + exp(0, true) + ")" + body(depth, inside);
            case 12: return "if(" + exp(0, true) + ")" + body(depth, inside) + "else" + body(depth, inside);
            case 13: return "while(" + exp(0, true) + ")" + body(depth, inside);
            case 14: case 15: return "either" + body(depth, true) + "or" + body(depth, inside);
            case 16: case 17: return "try" + body(depth, true) + "catch " + local() + body(depth, inside);
            default: return (random.nextInt(3) == 0 ? local() : cell()) + blank() + "=" + exp(0, true) + blank() + ";";
        }
    }

    private String exp(int depth, boolean locals) {
        String s = sum(depth, locals);
        return random.nextInt(3) == 0 ? s + pick("<", "=", "#") + sum(depth, locals) : s;
    }

    private String sum(int depth, boolean locals) {
        StringBuilder s = new StringBuilder(unary(depth, locals));
        while (random.nextInt(3) == 0) {
            s.append(pick("+", "-", "+", "-", "*", "/", "%")).append(blank()).append(unary(depth, locals));
        }
        return s.toString();
    }

    private String unary(int depth, boolean locals) {
        unaries--;
        int kind = random.nextInt(8);
        if (depth < (small ? 3 : 9) && kind == 0) {
            return "-" + unary(depth + 1, locals);
        }
        if (depth < (small ? 3 : 9) && kind == 1) {
            return "(" + exp(depth + 1, locals) + ")";
        }
        if (kind < 4) {
            return random.nextInt(9) == 0 ? pick("999999999", "000000007", "123456") : "" + random.nextInt(4);
        }
        return locals && kind == 4 ? local() : cell();
    }
}
