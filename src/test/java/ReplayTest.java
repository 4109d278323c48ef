import java.lang.reflect.Field;

/**
 * No run of calls can bring replays() to answer 0, as rows that don't come to the same are never written. So this
 * changes what stands inside an object by hand, and sees whether replays() tells. How the state is held is free: of a
 * class that is built otherwise only the answer 1 can be looked at.
 */
public final class ReplayTest {
    private static int wrong = 0;

    private static final class BuiltOtherwise extends RuntimeException {
        BuiltOtherwise(Exception cause) {
            super(cause);
        }
    }

    private static Object inside(Object of, String field) {
        try {
            Field f = of.getClass().getDeclaredField(field);
            f.setAccessible(true);
            return f.get(of);
        } catch (ReflectiveOperationException e) {
            throw new BuiltOtherwise(e);
        }
    }

    private static void set(Object of, String field, int value) {
        try {
            Field f = of.getClass().getDeclaredField(field);
            f.setAccessible(true);
            f.setInt(of, value);
        } catch (ReflectiveOperationException e) {
            throw new BuiltOtherwise(e);
        }
    }

    private static void due(String what, int got, int want) {
        if (got != want) {
            wrong++;
            System.out.println("replays() with " + what + " answered " + got + ", due is " + want);
        }
    }

    /** Rows: 0 put a 5; 1 "always a;a=a+1;" done; 2 "throw a;" thrown 6; 3 the first again, done; 4 "a=0;" thrown -2. */
    private static MemoryTransactions sample() {
        MemoryTransactions x = new MemoryTransactions();
        x.feed(0x616c7761, 0x79732061, 0x3b613d61, 0x2b313b20, 0x20202020);
        x.text();
        x.feed(0x7468726f, 0x7720613b, 0x20202020, 0x20202020, 0x20202020);
        x.text();
        x.feed(0x613d303b, 0x20202020, 0x20202020, 0x20202020, 0x20202020);
        x.text();
        x.put(0, 5);
        int[] all = {0, 1, 0, 2};
        for (int t : all) {
            x.add(0, t);
        }
        for (int i = 0; i < 20; i++) {
            x.turn(0);
        }
        return x;
    }

    private static void changeRow(MemoryTransactions x, String field, int row, int by) {
        Object rows = inside(inside(x, "journal"), field);
        if (rows instanceof long[] longs) {
            longs[row] += by;
        } else if (rows instanceof int[] ints) {
            ints[row] += by;
        }
    }

    private static int changedRow(String field, int row, int by) {
        MemoryTransactions x = sample();
        changeRow(x, field, row, by);
        return x.replays();
    }

    private static void changeInside() {
        due("another value that was put", changedRow("values", 0, 1), 0);
        due("thrown, told as put", changedRow("kinds", 4, -2), 0);
        due("another value thrown", changedRow("values", 2, 1), 0);
        due("another value thrown by a rule", changedRow("values", 4, 1), 0);
        due("done, told as thrown", changedRow("kinds", 3, 1), 0);
        due("thrown, told as done", changedRow("kinds", 2, -1), 0);
        due("thrown by a rule, told as done", changedRow("kinds", 4, -1), 0);
        due("a step more", changedRow("steps", 1, 1), 0);
        due("a step less", changedRow("steps", 2, -1), 0);
        due("another text", changedRow("what", 3, 1), 0);
        due("a cut more, which a row done in one go cannot tell", changedRow("cuts", 1, 1), 1);

        MemoryTransactions x = sample();
        due("nothing changed", x.replays(), 1);
        ((long[]) inside(inside(x, "store"), "values"))[3]++;
        due("another cell, after an answer of 1", x.replays(), 0);
        x = sample();
        ((int[]) inside(inside(x, "store"), "versions"))[0]++;
        due("another version", x.replays(), 0);
        x = sample();
        set(inside(x, "store"), "ruleCount", 1);
        due("a rule less", x.replays(), 0);
        x = sample();
        ((int[]) inside(inside(x, "store"), "ruleStatements"))[0]++;
        due("another rule", x.replays(), 0);
        x.clear();
        due("all cleared", x.replays(), 1);
        x = sample();
        changeRow(x, "steps", 1, 1);
        due("a step more", x.replays(), 0);
        due("a step more, asked again", x.replays(), 0);
        x.clear();
        due("all cleared", x.replays(), 1);
        x = sample();
        x.put(0, 3);
        x.put(0, 4);
        changeRow(x, "values", 5, -3);
        due("a put that a rule forbids, though another comes behind it", x.replays(), 0);
    }

    public static void main(String[] args) {
        MemoryTransactions x = sample();
        if (x.rows() != 5) {
            wrong++;
            System.out.println("the sample has " + x.rows() + " rows, due are 5");
        }
        due("nothing changed", x.replays(), 1);
        try {
            changeInside();
        } catch (BuiltOtherwise e) {
            System.out.println("the class is built otherwise, no answer of 0 was looked at: " + e.getCause());
        }
        System.out.println(wrong == 0 ? "all answers are as due" : wrong + " answers are not as due");
        if (wrong != 0) {
            System.exit(1);
        }
    }
}
