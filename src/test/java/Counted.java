/** An object under test that counts its calls: the document promises nothing behind the 512th, so no test may go there. */
final class Counted {
    static final int MOST_CALLS = 512;

    private final MemoryTransactions x = new MemoryTransactions();
    private int calls = 0;

    int left() {
        return MOST_CALLS - calls;
    }

    private MemoryTransactions called() {
        calls++;
        if (calls > MOST_CALLS) {
            throw new IllegalStateException("this test makes more than 512 calls on one object");
        }
        return x;
    }

    int feed(int a, int b, int c, int d, int e) {
        return called().feed(a, b, c, d, e);
    }

    int end(int n) {
        return called().end(n);
    }

    int text() {
        return called().text();
    }

    int place() {
        return called().place();
    }

    int told(int transaction, int what) {
        return called().told(transaction, what);
    }

    int put(int cell, long v) {
        return called().put(cell, v);
    }

    long cell(int cell) {
        return called().cell(cell);
    }

    int version(int cell) {
        return called().version(cell);
    }

    int add(int client, int transaction) {
        return called().add(client, transaction);
    }

    int turn(int client) {
        return called().turn(client);
    }

    int play(long seed, int n) {
        return called().play(seed, n);
    }

    int client(int client, int what) {
        return called().client(client, what);
    }

    long sees(int client, int letter) {
        return called().sees(client, letter);
    }

    int rules() {
        return called().rules();
    }

    int rows() {
        return called().rows();
    }

    int row(int i, int what) {
        return called().row(i, what);
    }

    long value(int i) {
        return called().value(i);
    }

    int replays() {
        return called().replays();
    }

    int clear() {
        return called().clear();
    }
}
