import java.nio.ByteBuffer;
import java.nio.charset.StandardCharsets;

/** A new object and what a test says of it: each answer that is not the one that is due is told, with what it is about. */
class Bench {
    static final int NONE = MemoryTransactions.NONE;
    static final int A = 0;
    static final int B = 1;
    static final int C = 2;
    static final int D = 3;
    static final int P = 15;
    static final int Q = 16;
    static final int R = 17;
    static final int Z = 25;
    static final int LEAST = Integer.MIN_VALUE;
    static final int MOST = Integer.MAX_VALUE;

    private static int wrong = 0;
    private static int checks = 0;

    final String about;
    final Counted x = new Counted();

    Bench(String about) {
        this.about = about;
    }

    void due(String call, long got, long want) {
        checks++;
        if (got != want) {
            wrong++;
            System.out.println(about + ": " + call + " answered " + got + ", due is " + want);
        }
    }

    /** A row of answers of turn(client). */
    void turns(int client, int... want) {
        for (int i = 0; i < want.length; i++) {
            due("turn(" + client + ") no. " + i, x.turn(client), want[i]);
        }
    }

    /** What client(client, 0 ..) answers. */
    void isClient(int client, int... want) {
        for (int what = 0; what < want.length; what++) {
            due("client(" + client + ", " + what + ")", x.client(client, what), want[what]);
        }
    }

    void isRow(int i, long value, int... want) {
        for (int what = 0; what < want.length; what++) {
            due("row(" + i + ", " + what + ")", x.row(i, what), want[what]);
        }
        due("value(" + i + ")", x.value(i), value);
    }

    void isCells(long... want) {
        for (int i = 0; i < want.length; i++) {
            due("cell(" + i + ")", x.cell(i), want[i]);
        }
    }

    void isVersions(int... want) {
        for (int i = 0; i < want.length; i++) {
            due("version(" + i + ")", x.version(i), want[i]);
        }
    }

    void feedAll(String s) {
        byte[] all = s.getBytes(StandardCharsets.ISO_8859_1);
        for (int at = 0; at < all.length; at += 20) {
            int n = Math.min(20, all.length - at);
            ByteBuffer b = ByteBuffer.allocate(20);
            b.put(all, at, n).rewind();
            x.feed(b.getInt(), b.getInt(), b.getInt(), b.getInt(), b.getInt());
            if (n < 20) {
                x.end(n);
            }
        }
    }

    int text(String s) {
        feedAll(s);
        return x.text();
    }

    /** A text that is right, and one more to do for a client. */
    void addText(int client, String s) {
        int t = text(s);
        due("text of " + s + " is right", t >= 0 ? 1 : 0, 1);
        due("add of " + s + " is right", x.add(client, t) > 0 ? 1 : 0, 1);
    }

    /** Client 0 does a text, alone; the answer is that of its last turn. */
    int does(String s) {
        addText(0, s);
        int answer = x.turn(0);
        for (int i = 0; i < 400 && answer == 0; i++) {
            answer = x.turn(0);
        }
        return answer;
    }

    /** Client 0 becomes urgent by four cuts of "b=a;", which writes a four times. */
    void makeUrgent() {
        addText(0, "b=a;");
        for (int i = 1; i <= 4; i++) {
            turns(0, 0);
            x.put(A, i);
            turns(0, 3);
        }
        due("client 0 is urgent", x.client(0, 7), 1);
    }

    /** Puts p till there are so many rows. */
    void putRows(int many) {
        int now = x.rows();
        for (int i = now; i < many; i++) {
            x.put(P, i);
        }
        due("rows", x.rows(), many);
    }

    static String times(int n, String s) {
        return s.repeat(n);
    }

    static void finish() {
        System.out.println(wrong == 0 ? checks + " answers are as due" : wrong + " answers are not as due");
        if (wrong != 0) {
            System.exit(1);
        }
    }
}
