import java.nio.ByteBuffer;
import java.nio.charset.StandardCharsets;
import java.util.ArrayList;
import java.util.Collections;
import java.util.List;
import java.util.Random;

/** Random runs of up to 512 calls: the program must answer each as the model does. */
public final class ModelTest {
    private static final long[] EDGES = {Long.MIN_VALUE, Long.MAX_VALUE, -1, 0, 1, 2, 3, 7};

    private final Random random;
    private final Counted x = new Counted();
    private final Model m = new Model();
    private final List<String> calls = new ArrayList<>();
    private static final int[] turns = new int[8];

    private ModelTest(long seed) {
        random = new Random(seed);
    }

    private void same(String call, long got, long want) {
        calls.add(call + " = " + got);
        if (got != want) {
            calls.forEach(System.out::println);
            throw new IllegalStateException(call + " answered " + got + ", the model says " + want);
        }
    }

    private int some(int bound) {
        return random.nextInt(60) == 0 ? random.nextInt(5) == 0 ? random.nextInt() : random.nextInt(bound + 4) - 2 : random.nextInt(bound);
    }

    private long someValue() {
        return random.nextInt(6) == 0 ? EDGES[random.nextInt(EDGES.length)] : random.nextInt(4);
    }

    private void feed(String s) {
        byte[] all = s.getBytes(StandardCharsets.ISO_8859_1);
        for (int at = 0; at < all.length; at += 20) {
            ByteBuffer b = ByteBuffer.allocate(20);
            int n = Math.min(20, all.length - at);
            b.put(all, at, n).rewind();
            int[] i = {b.getInt(), b.getInt(), b.getInt(), b.getInt(), b.getInt()};
            same("feed", x.feed(i[0], i[1], i[2], i[3], i[4]), m.feed(i[0], i[1], i[2], i[3], i[4]));
            if (n < 20) {
                same("end " + n, x.end(n), m.end(n));
            }
        }
    }

    private void text(String s) {
        feed(s);
        calls.add("// " + s);
        same("text", x.text(), m.text());
        same("place", x.place(), m.place());
    }

    private void oneTurn(int c) {
        int got = x.turn(c);
        same("turn " + c, got, m.turn(c));
        turns[got + 1]++;
        if (got == 5 && random.nextInt(3) != 0) {
            int t = random.nextInt(12);
            same("add " + c + " " + t, x.add(c, t), m.add(c, t));
        }
        if (random.nextInt(4) == 0) {
            int what = some(9);
            same("client " + c + " " + what, x.client(c, what), m.client(c, what));
        }
        if (random.nextInt(6) == 0) {
            int letter = random.nextInt(3) == 0 ? some(26) : random.nextInt(3);
            same("sees " + c + " " + letter, x.sees(c, letter), m.sees(c, letter));
        }
    }

    private void someCall(int clients, int weight) {
        int kind = random.nextInt(100);
        int c = random.nextInt(50) == 0 ? some(8) : random.nextInt(clients);
        if (kind < 60) {
            oneTurn(c);
        } else if (kind < 70) {
            int t = some(12);
            same("add " + c + " " + t, x.add(c, t), m.add(c, t));
        } else if (kind < 76) {
            int cell = random.nextInt(3) == 0 ? some(16) : random.nextInt(3);
            long v = someValue();
            same("put " + cell + " " + v, x.put(cell, v), m.put(cell, v));
        } else if (kind < 80) {
            long seed = random.nextLong();
            int n = random.nextInt(20) == 0 ? some(2001) : random.nextInt(weight);
            same("play " + seed + " " + n, x.play(seed, n), m.play(seed, n));
        } else if (kind < 81 && random.nextInt(6) == 0) {
            same("clear", x.clear(), m.clear());
            same("replays", x.replays(), m.replays());
        } else if (kind < 83) {
            same("replays", x.replays(), m.replays());
        } else {
            observe(c);
        }
    }

    private void observe(int c) {
        int i = random.nextInt(10) == 0 ? some(300) : x.rows() - 1 - random.nextInt(3);
        int what = some(9);
        int cell = some(16);
        int letter = some(26);
        switch (random.nextInt(11)) {
            case 0: same("cell " + cell, x.cell(cell), m.cell(cell)); break;
            case 1: same("version " + cell, x.version(cell), m.version(cell)); break;
            case 2: same("sees " + c + " " + letter, x.sees(c, letter), m.sees(c, letter)); break;
            case 3: same("rules", x.rules(), m.rules()); break;
            case 4: same("rows", x.rows(), m.rows()); break;
            case 5: case 6: same("row " + i + " " + what, x.row(i, what), m.row(i, what)); break;
            case 7: same("value " + i, x.value(i), m.value(i)); break;
            case 8: same("told " + c + " " + what, x.told(c, what), m.told(c, what)); break;
            case 9: same("place", x.place(), m.place()); break;
            default: same("client " + c + " " + what, x.client(c, what), m.client(c, what)); break;
        }
    }

    /** All that can be asked, in a random order, as far as the calls that are left reach. */
    private void observeAll() {
        List<Integer> questions = new ArrayList<>();
        int rows = m.rows();
        for (int i = 0; i < 8 * 9 + 8 * 26 + 32 + 6 * (rows + 1) + 3; i++) {
            questions.add(i);
        }
        Collections.shuffle(questions, random);
        for (int i = 0; i < questions.size() && x.left() > 1; i++) {
            ask(questions.get(i), rows);
        }
    }

    private void ask(int question, int rows) {
        int q = question;
        if (q < 8 * 9) {
            same("client " + q / 9 + " " + q % 9, x.client(q / 9, q % 9), m.client(q / 9, q % 9));
            return;
        }
        q -= 8 * 9;
        if (q < 8 * 26) {
            same("sees " + q / 26 + " " + q % 26, x.sees(q / 26, q % 26), m.sees(q / 26, q % 26));
            return;
        }
        q -= 8 * 26;
        if (q < 16) {
            same("cell " + q, x.cell(q), m.cell(q));
            return;
        }
        q -= 16;
        if (q < 16) {
            same("version " + q, x.version(q), m.version(q));
            return;
        }
        q -= 16;
        if (q < 6 * (rows + 1)) {
            int i = q / 6;
            int what = q % 6;
            if (what < 5) {
                same("row " + i + " " + what, x.row(i, what), m.row(i, what));
            } else {
                same("value " + i, x.value(i), m.value(i));
            }
            return;
        }
        switch (q - 6 * (rows + 1)) {
            case 0: same("rules", x.rules(), m.rules()); break;
            case 1: same("rows", x.rows(), m.rows()); break;
            default: same("replays is 1", x.replays(), 1); break;
        }
    }

    private void transactions(boolean full) {
        Texts texts = new Texts(random, true);
        int n = full ? 2 + random.nextInt(5) : 2 + random.nextInt(12);
        while (n > 0) {
            n--;
            text(random.nextInt(12) == 0 ? texts.spoiled() : texts.next());
        }
        int clients = 1 + random.nextInt(8);
        int weight = 1 << random.nextInt(9);
        for (int c = 0; c < clients; c++) {
            for (int k = random.nextInt(6); k > 0; k--) {
                int t = random.nextInt(12);
                same("add " + c + " " + t, x.add(c, t), m.add(c, t));
            }
        }
        if (full) {
            manyRows(clients);
        }
        // A short run is asked about much, a long one little.
        int asked = 5 + random.nextInt(random.nextInt(4) == 0 ? 400 : 60);
        while (x.left() > Math.max(asked, 10)) {
            someCall(clients, weight);
        }
        observeAll();
    }

    /** Nearly 300 rows, mostly of puts, so that what follows meets the last of them. */
    private void manyRows(int clients) {
        int till = 290 + random.nextInt(11);
        while (m.rows() < till && x.left() > 60) {
            if (random.nextInt(12) == 0) {
                oneTurn(random.nextInt(clients));
            } else {
                int cell = random.nextInt(4) == 0 ? random.nextInt(3) : 4 + random.nextInt(9);
                long v = someValue();
                same("put " + cell + " " + v, x.put(cell, v), m.put(cell, v));
            }
        }
    }

    private void faults() {
        Texts texts = new Texts(random, false);
        for (int i = 0; i < 11 && x.left() > 50; i++) {
            text(random.nextInt(2) == 0 ? texts.spoiled() : texts.next());
            for (int what = -1; what < 4; what++) {
                same("told " + i + " " + what, x.told(i, what), m.told(i, what));
            }
        }
    }

    private void tape() {
        for (int i = 0; i < 200; i++) {
            if (random.nextInt(5) == 0) {
                int n = some(21);
                same("end " + n, x.end(n), m.end(n));
            } else if (random.nextInt(80) == 0) {
                same("text", x.text(), m.text());
                same("place", x.place(), m.place());
            } else {
                int[] f = {random.nextInt(), random.nextInt(), 0x20202020, 0x0a0a0a0a, random.nextInt()};
                if (random.nextInt(2) == 0) {
                    f = new int[] {0x613d313b, 0x20202020, 0x20202020, 0x20202020, 0x20202020};
                }
                same("feed", x.feed(f[0], f[1], f[2], f[3], f[4]), m.feed(f[0], f[1], f[2], f[3], f[4]));
            }
        }
    }

    public static void main(String[] args) {
        int runs = args.length > 0 ? Integer.parseInt(args[0]) : 3000;
        long base = args.length > 1 ? Long.parseLong(args[1]) : 0;
        int wrong = 0;
        for (int i = 0; i < runs && wrong < 3; i++) {
            ModelTest test = new ModelTest(base + i);
            try {
                if (i % 10 == 0) {
                    test.tape();
                } else if (i % 3 == 0) {
                    test.faults();
                } else {
                    test.transactions(i % 7 == 0);
                }
            } catch (RuntimeException e) {
                wrong++;
                System.out.println("seed " + (base + i) + ": " + e);
                e.printStackTrace(System.out);
            }
        }
        for (int i = 0; i < turns.length; i++) {
            System.out.println("turns that answered " + (i - 1) + ": " + turns[i]);
            // A few runs of one's own need not meet all of them.
            if (turns[i] == 0 && args.length == 0) {
                wrong++;
                System.out.println("no random run met this answer");
            }
        }
        System.out.println(wrong == 0 ? "all answers are as the model's" : wrong + " runs are wrong");
        if (wrong != 0) {
            System.exit(1);
        }
    }
}
