import java.nio.charset.StandardCharsets;
import java.util.ArrayList;
import java.util.Arrays;
import java.util.HashMap;
import java.util.List;
import java.util.Map;
import java.util.TreeMap;
import java.util.regex.Matcher;
import java.util.regex.Pattern;

/**
 * The document once more, written in another way than the program: a run keeps only what it has read and how many
 * steps it has done, and each turn does it again from its beginning.
 */
final class Model {
    static final int NONE = -1;

    private static final class Fault extends RuntimeException {
        final int at;

        Fault(int at) {
            super(null, null, false, false);
            this.at = at;
        }
    }

    private static class Signal extends RuntimeException {
        Signal() {
            super(null, null, false, false);
        }
    }

    private static final class Pause extends Signal { }

    private static final class Cut extends Signal { }

    private static final class Retry extends Signal { }

    private static final class Thrown extends Signal {
        final long value;

        Thrown(long value) {
            this.value = value;
        }
    }

    private static final class Fatal extends Signal {
        final long value;

        Fatal(long value) {
            this.value = value;
        }
    }

    private interface View {
        long letter(int letter);
    }

    private interface Exp {
        long work(View view);
    }

    private interface Statement {
        void walk(Machine m);
    }

    private static final class Text {
        List<Statement> statements;
        int count;
        int unaries;
        int bodies;
    }

    private record Token(String word, int at) { }

    private static final class Reader {
        private static final Pattern TOKEN = Pattern.compile("[a-z]+|[0-9]+|[^ \\n]", Pattern.DOTALL);
        private final List<Token> tokens = new ArrayList<>();
        private int next = 0;
        private final Text text = new Text();

        Reader(String s) {
            Matcher m = TOKEN.matcher(s);
            while (m.find()) {
                tokens.add(new Token(m.group(), m.start()));
            }
            tokens.add(new Token("", s.length()));
        }

        Text read() {
            text.statements = row("", 0);
            return text;
        }

        private String peek() {
            return tokens.get(next).word();
        }

        private Fault fault() {
            return new Fault(tokens.get(next).at());
        }

        private String take(String pattern) {
            if (!peek().matches(pattern)) {
                throw fault();
            }
            return tokens.get(next++).word();
        }

        private List<Statement> row(String till, int depth) {
            List<Statement> row = new ArrayList<>();
            while (!peek().equals(till)) {
                row.add(statement(depth));
            }
            return row;
        }

        private List<Statement> body(int depth) {
            if (depth == 8) {
                throw fault();
            }
            take("\\{");
            text.bodies = Math.max(text.bodies, depth + 1);
            List<Statement> row = row("}", depth + 1);
            take("\\}");
            return row;
        }

        private Statement statement(int depth) {
            if (text.count == 40) {
                throw fault();
            }
            String word = take("[a-z]|if|while|retry|throw|either|try|always");
            text.count++;
            switch (word) {
                case "if": {
                    Exp e = condition();
                    List<Statement> yes = body(depth);
                    List<Statement> no = List.of();
                    if (peek().equals("else")) {
                        next++;
                        no = body(depth);
                    }
                    List<Statement> otherwise = no;
                    return m -> {
                        m.tick();
                        m.walk(e.work(m) != 0 ? yes : otherwise);
                    };
                }
                case "while": {
                    Exp e = condition();
                    List<Statement> inner = body(depth);
                    return m -> {
                        while (true) {
                            m.tick();
                            if (e.work(m) == 0) {
                                return;
                            }
                            m.walk(inner);
                        }
                    };
                }
                case "retry":
                    take(";");
                    return m -> {
                        m.tick();
                        throw new Retry();
                    };
                case "throw": {
                    Exp e = closed(true);
                    return m -> {
                        m.tick();
                        throw new Thrown(e.work(m));
                    };
                }
                case "either": {
                    List<Statement> one = body(depth);
                    take("or");
                    List<Statement> other = body(depth);
                    return m -> {
                        m.tick();
                        Draft before = m.draft.copy();
                        try {
                            m.walk(one);
                            return;
                        } catch (Retry r) {
                            m.draft = before;
                        }
                        m.walk(other);
                    };
                }
                case "try": {
                    List<Statement> one = body(depth);
                    take("catch");
                    int local = take("[q-z]").charAt(0) - 'q';
                    List<Statement> other = body(depth);
                    return m -> {
                        m.tick();
                        Draft before = m.draft.copy();
                        try {
                            m.walk(one);
                            return;
                        } catch (Thrown t) {
                            m.draft = before;
                            m.draft.locals[local] = t.value;
                        }
                        m.walk(other);
                    };
                }
                case "always": {
                    Exp e = closed(false);
                    return m -> {
                        m.tick();
                        m.draft.always.add(e);
                    };
                }
                default: {
                    take("=");
                    int letter = word.charAt(0) - 'a';
                    Exp e = closed(true);
                    return m -> {
                        m.tick();
                        long v = e.work(m);
                        if (letter < 16) {
                            m.draft.written.put(letter, v);
                        } else {
                            m.draft.locals[letter - 16] = v;
                        }
                    };
                }
            }
        }

        private Exp condition() {
            take("\\(");
            Exp e = exp(0, true);
            take("\\)");
            return e;
        }

        private Exp closed(boolean locals) {
            Exp e = exp(0, locals);
            take(";");
            return e;
        }

        private Exp exp(int depth, boolean locals) {
            Exp left = chain(0, depth, locals);
            if (!peek().matches("[<=#]")) {
                return left;
            }
            String op = tokens.get(next++).word();
            return joined(op, left, chain(0, depth, locals));
        }

        /** Level 0 is a sum, 1 a product. */
        private Exp chain(int level, int depth, boolean locals) {
            Exp all = level == 0 ? chain(1, depth, locals) : unary(depth, locals);
            while (peek().matches(level == 0 ? "[-+]" : "[*/%]")) {
                String op = tokens.get(next++).word();
                all = joined(op, all, level == 0 ? chain(1, depth, locals) : unary(depth, locals));
            }
            return all;
        }

        private Exp unary(int depth, boolean locals) {
            if (text.unaries == 60 || depth == 8 && peek().matches("[-(]")) {
                throw fault();
            }
            String word = take(locals ? "[a-z]|[0-9]{1,9}|[-(]" : "[a-p]|[0-9]{1,9}|[-(]");
            text.unaries++;
            if (word.equals("-")) {
                Exp e = unary(depth + 1, locals);
                return v -> -e.work(v);
            }
            if (word.equals("(")) {
                Exp e = exp(depth + 1, locals);
                take("\\)");
                return e;
            }
            if (Character.isDigit(word.charAt(0))) {
                long n = Long.parseLong(word);
                return v -> n;
            }
            int letter = word.charAt(0) - 'a';
            return v -> v.letter(letter);
        }

        private static Exp joined(String op, Exp left, Exp right) {
            return v -> {
                long a = left.work(v);
                long b = right.work(v);
                switch (op) {
                    case "+": return a + b;
                    case "-": return a - b;
                    case "*": return a * b;
                    case "<": return a < b ? 1 : 0;
                    case "=": return a == b ? 1 : 0;
                    case "#": return a != b ? 1 : 0;
                    default:
                        if (b == 0) {
                            throw new Thrown(-1);
                        }
                        return op.equals("/") ? a / b : a % b;
                }
            };
        }
    }

    private static final class Draft {
        Map<Integer, Long> written = new TreeMap<>();
        long[] locals = new long[10];
        List<Exp> always = new ArrayList<>();

        Draft copy() {
            Draft d = new Draft();
            d.written.putAll(written);
            d.locals = locals.clone();
            d.always.addAll(always);
            return d;
        }
    }

    private static final class State {
        long[] cells = new long[16];
        int[] versions = new int[16];
        List<Exp> rules = new ArrayList<>();

        boolean holds(Map<Integer, Long> changes, List<Exp> more) {
            long[] then = cells.clone();
            changes.forEach((c, v) -> then[c] = v);
            List<Exp> all = new ArrayList<>(rules);
            all.addAll(more);
            for (Exp rule : all) {
                try {
                    if (rule.work(l -> then[l]) == 0) {
                        return false;
                    }
                } catch (Thrown t) {
                    return false;
                }
            }
            return all.size() <= 32;
        }

        void take(Draft d) {
            d.written.forEach((c, v) -> {
                cells[c] = v;
                versions[c]++;
            });
            rules.addAll(d.always);
        }
    }

    private record Read(long value, int version) { }

    private static final class Machine implements View {
        final State state;
        final Map<Integer, Read> read;
        final int limit;
        int steps = 0;
        Draft draft = new Draft();

        Machine(State state, Map<Integer, Read> read, int limit) {
            this.state = state;
            this.read = new TreeMap<>(read);
            this.limit = limit;
        }

        void tick() {
            if (steps == limit) {
                throw new Pause();
            }
            steps++;
            if (steps == 301) {
                throw new Fatal(-3);
            }
        }

        void walk(List<Statement> row) {
            for (Statement s : row) {
                s.walk(this);
            }
        }

        public long letter(int letter) {
            if (letter >= 16) {
                return draft.locals[letter - 16];
            }
            if (draft.written.containsKey(letter)) {
                return draft.written.get(letter);
            }
            if (!read.containsKey(letter)) {
                if (stale(state, read)) {
                    throw new Cut();
                }
                read.put(letter, new Read(state.cells[letter], state.versions[letter]));
            }
            return read.get(letter).value();
        }

        /** 0 paused, 1 at the end, 2 thrown, 3 cut, 4 retry. */
        int go(Text text) {
            try {
                walk(text.statements);
                tick();
                return 1;
            } catch (Pause p) {
                return 0;
            } catch (Cut c) {
                return 3;
            } catch (Retry r) {
                return 4;
            } catch (Thrown t) {
                thrown = t.value;
                return 2;
            } catch (Fatal f) {
                thrown = f.value;
                return 2;
            }
        }

        long thrown;
    }

    private static boolean stale(State state, Map<Integer, Read> read) {
        return read.entrySet().stream().anyMatch(e -> state.versions[e.getKey()] != e.getValue().version());
    }

    private static final class Client {
        List<Integer> todo = new ArrayList<>();
        Machine run;
        Map<Integer, Read> waits;
        int cuts;
        boolean urgent;
    }

    private record Row(int kind, int client, int what, int steps, int cuts, long value) { }

    private StringBuilder tape = new StringBuilder();
    private final List<Text> texts = new ArrayList<>();
    private int place = NONE;
    private State state = new State();
    private List<Client> clients = newClients();
    private final List<Row> rows = new ArrayList<>();

    private static List<Client> newClients() {
        List<Client> all = new ArrayList<>();
        for (int i = 0; i < 8; i++) {
            all.add(new Client());
        }
        return all;
    }

    int feed(int a, int b, int c, int d, int e) {
        if (tape.length() > 780) {
            return NONE;
        }
        byte[] bytes = java.nio.ByteBuffer.allocate(20).putInt(a).putInt(b).putInt(c).putInt(d).putInt(e).array();
        tape.append(new String(bytes, StandardCharsets.ISO_8859_1));
        return tape.length();
    }

    int end(int n) {
        if (n < 0 || n > 20 || tape.length() < 20) {
            return NONE;
        }
        tape.setLength(tape.length() - 20 + n);
        return tape.length();
    }

    int text() {
        if (texts.size() == 12) {
            return NONE;
        }
        String s = tape.toString();
        tape.setLength(0);
        try {
            texts.add(new Reader(s).read());
            place = NONE;
            return texts.size() - 1;
        } catch (Fault f) {
            place = f.at;
            return -2;
        }
    }

    int place() {
        return place;
    }

    int told(int transaction, int what) {
        if (transaction < 0 || transaction >= texts.size() || what < 0 || what > 2) {
            return NONE;
        }
        Text t = texts.get(transaction);
        return new int[] {t.count, t.unaries, t.bodies}[what];
    }

    int put(int cell, long v) {
        if (cell < 0 || cell > 15 || rows.size() == 300) {
            return NONE;
        }
        if (!state.holds(Map.of(cell, v), List.of())) {
            return -2;
        }
        state.cells[cell] = v;
        rows.add(new Row(0, NONE, cell, 0, 0, v));
        return ++state.versions[cell];
    }

    long cell(int cell) {
        return cell < 0 || cell > 15 ? 0 : state.cells[cell];
    }

    int version(int cell) {
        return cell < 0 || cell > 15 ? NONE : state.versions[cell];
    }

    int add(int client, int transaction) {
        if (client < 0 || client > 7 || transaction < 0 || transaction >= texts.size()) {
            return NONE;
        }
        List<Integer> todo = clients.get(client).todo;
        if (todo.size() == 16) {
            return NONE;
        }
        todo.add(transaction);
        return todo.size();
    }

    int turn(int client) {
        if (client < 0 || client > 7) {
            return NONE;
        }
        Client c = clients.get(client);
        if (c.todo.isEmpty()) {
            return 5;
        }
        if (c.waits != null && !stale(state, c.waits)) {
            return 4;
        }
        Machine m = c.run == null ? new Machine(state, new HashMap<>(), 1) : new Machine(state, c.run.read, c.run.steps + 1);
        int outcome = m.go(texts.get(c.todo.get(0)));
        if (outcome == 0) {
            c.run = m;
            c.waits = null;
            return 0;
        }
        if (outcome == 3 || stale(state, m.read)) {
            c.run = null;
            c.waits = null;
            c.cuts++;
            c.urgent = c.cuts >= 4;
            return 3;
        }
        if (outcome == 4) {
            c.run = null;
            c.waits = m.read;
            c.urgent = false;
            return 4;
        }
        if (!c.urgent && clients.stream().anyMatch(o -> o.urgent)) {
            return 6;
        }
        if (rows.size() == 300) {
            return NONE;
        }
        boolean done = outcome == 1 && state.holds(m.draft.written, m.draft.always);
        if (done) {
            state.take(m.draft);
        }
        rows.add(new Row(done ? 1 : 2, client, c.todo.get(0), m.steps, c.cuts, done ? 0 : outcome == 1 ? -2 : m.thrown));
        c.todo.remove(0);
        c.run = null;
        c.waits = null;
        c.cuts = 0;
        c.urgent = false;
        return done ? 1 : 2;
    }

    int play(long seed, int n) {
        if (n < 0 || n > 2000) {
            return NONE;
        }
        int done = 0;
        for (long s = seed; n > 0; n--) {
            s = s * 6364136223846793005L + 1442695040888963407L;
            if (turn((int) (s >>> 61)) == 1) {
                done++;
            }
        }
        return done;
    }

    private static int mask(Map<Integer, ?> cells) {
        return cells.keySet().stream().mapToInt(c -> 1 << c).sum();
    }

    int client(int client, int what) {
        if (client < 0 || client > 7) {
            return NONE;
        }
        Client c = clients.get(client);
        switch (what) {
            case 0: return c.todo.isEmpty() ? 0 : c.run != null ? 2 : c.waits != null ? 3 : 1;
            case 1: return c.todo.size();
            case 2: return c.todo.isEmpty() ? NONE : c.todo.get(0);
            case 3: return c.cuts;
            case 4: return c.run == null ? 0 : c.run.steps;
            case 5: return c.run != null ? mask(c.run.read) : c.waits != null ? mask(c.waits) : 0;
            case 6: return c.run == null ? 0 : mask(c.run.draft.written);
            case 7: return c.urgent ? 1 : 0;
            case 8: return c.run == null ? 0 : c.run.draft.always.size();
            default: return NONE;
        }
    }

    long sees(int client, int letter) {
        if (client < 0 || client > 7 || letter < 0 || letter > 25) {
            return 0;
        }
        Machine run = clients.get(client).run;
        if (letter > 15) {
            return run == null ? 0 : run.draft.locals[letter - 16];
        }
        if (run != null && run.draft.written.containsKey(letter)) {
            return run.draft.written.get(letter);
        }
        return run != null && run.read.containsKey(letter) ? run.read.get(letter).value() : state.cells[letter];
    }

    int rules() {
        return state.rules.size();
    }

    int rows() {
        return rows.size();
    }

    int row(int i, int what) {
        if (i < 0 || i >= rows.size() || what < 0 || what > 4) {
            return NONE;
        }
        Row r = rows.get(i);
        return new int[] {r.kind, r.client, r.what, r.steps, r.cuts}[what];
    }

    long value(int i) {
        return i < 0 || i >= rows.size() ? 0 : rows.get(i).value;
    }

    int replays() {
        State s = new State();
        for (Row r : rows) {
            if (r.kind == 0) {
                if (!s.holds(Map.of(r.what, r.value), List.of())) {
                    return 0;
                }
                s.cells[r.what] = r.value;
                s.versions[r.what]++;
                continue;
            }
            Machine m = new Machine(s, Map.of(), 1000);
            int outcome = m.go(texts.get(r.what));
            boolean done = outcome == 1 && s.holds(m.draft.written, m.draft.always);
            long thrown = done ? 0 : outcome == 1 ? -2 : m.thrown;
            if (outcome > 2 || m.steps != r.steps || done != (r.kind == 1) || thrown != r.value) {
                return 0;
            }
            if (done) {
                s.take(m.draft);
            }
        }
        boolean same = Arrays.equals(s.cells, state.cells) && Arrays.equals(s.versions, state.versions);
        return same && s.rules.equals(state.rules) ? 1 : 0;
    }

    int clear() {
        int was = rows.size();
        rows.clear();
        state = new State();
        clients = newClients();
        place = NONE;
        return was;
    }
}
