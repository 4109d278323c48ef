import java.io.IOException;
import java.lang.management.ManagementFactory;
import java.lang.reflect.Constructor;
import java.lang.reflect.Field;
import java.lang.reflect.Method;
import java.lang.reflect.Modifier;
import java.nio.file.Files;
import java.nio.file.Path;
import java.util.List;
import java.util.Set;
import java.util.TreeSet;
import java.util.regex.Matcher;
import java.util.regex.Pattern;

/** Rules of LANGUAGE.md that can be read off the source and the class, and how much memory the dearest calls take. */
public final class SourceTest {
    private static final Path SOURCE = Path.of("src/main/java/MemoryTransactions.java");
    private static final Set<String> FACE = new TreeSet<>(List.of(
        "int feed(int,int,int,int,int)", "int end(int)", "int text()", "int place()", "int told(int,int)",
        "int put(int,long)", "long cell(int)", "int version(int)", "int add(int,int)", "int turn(int)",
        "int play(long,int)", "int client(int,int)", "long sees(int,int)", "int rules()", "int rows()",
        "int row(int,int)", "long value(int)", "int replays()", "int clear()"));

    private static int wrong = 0;

    private static void holds(boolean fact, String what) {
        if (!fact) {
            wrong++;
            System.out.println("does not hold: " + what);
        }
    }

    private static String signature(Method m) {
        StringBuilder s = new StringBuilder(m.getReturnType().getName() + " " + m.getName() + "(");
        for (Class<?> p : m.getParameterTypes()) {
            s.append(s.charAt(s.length() - 1) == '(' ? "" : ",").append(p.getName());
        }
        return s.append(")").toString();
    }

    private static void face() {
        Class<?> c = MemoryTransactions.class;
        holds(Modifier.isPublic(c.getModifiers()) && Modifier.isFinal(c.getModifiers()), "1: the class is public and final");
        Set<String> open = new TreeSet<>();
        for (Method m : c.getDeclaredMethods()) {
            if (!Modifier.isPrivate(m.getModifiers()) && !m.isSynthetic()) {
                holds(Modifier.isPublic(m.getModifiers()), "1: " + m.getName() + " is public or private");
                open.add(signature(m));
            }
        }
        holds(open.equals(FACE), "1: the methods are those of the document: " + open);
        Constructor<?>[] constructors = c.getDeclaredConstructors();
        holds(constructors.length == 1 && Modifier.isPublic(constructors[0].getModifiers()), "1: one public constructor");
        for (Field f : c.getDeclaredFields()) {
            holds(Modifier.isPrivate(f.getModifiers()) || f.getName().equals("NONE"), "1: " + f.getName() + " is private");
            holds(!Modifier.isStatic(f.getModifiers()) || Modifier.isFinal(f.getModifiers()), "5: " + f.getName() + " is final");
        }
    }

    private static void classesInside() {
        Set<String> names = new TreeSet<>();
        FACE.forEach(s -> names.add(s.substring(s.indexOf(' ') + 1, s.indexOf('('))));
        Class<?>[] inside = MemoryTransactions.class.getDeclaredClasses();
        holds(inside.length <= 14, "11: some twelve classes");
        for (Class<?> c : inside) {
            holds(Modifier.isStatic(c.getModifiers()), "2: " + c + " is static");
            int fields = 0;
            for (Field f : c.getDeclaredFields()) {
                fields += Modifier.isStatic(f.getModifiers()) ? 0 : 1;
            }
            holds(fields <= 22, "11: " + c + " has some twenty fields");
            for (Method m : c.getDeclaredMethods()) {
                holds(!names.contains(m.getName()), "1: no method inside bears the public name " + m.getName());
                holds(m.getParameterCount() <= 7, "11: " + m.getName() + " has at most seven parameters");
            }
        }
    }

    private static void words() throws IOException {
        String all = Files.readString(SOURCE);
        String code = all.replaceAll("(?s)/\\*.*?\\*/|//[^\\n]*|\"[^\"]*\"|'[^']*'", " ");
        String[] banned = {"throw", "throws", "try", "catch", "finally", "synchronized", "assert", "native", "Thread",
            "Random", "Object", "hashCode", "Exception", "Error", "currentTimeMillis", "nanoTime"};
        for (String word : banned) {
            holds(!Pattern.compile("\\b" + word + "\\b").matcher(code).find(), "6: no " + word);
        }
        holds(!code.contains("->") && !code.contains("::"), "2: no lambda, no method reference");
        holds(!code.contains("Exact"), "4: nothing whose name ends in Exact");
        holds(!code.contains("package "), "no package line");
        Matcher imports = Pattern.compile("import ([^;]*);").matcher(code);
        while (imports.find()) {
            holds(imports.group(1).matches("java\\.util\\.(Arrays|ArrayList|List|Iterator)"), "4: import " + imports.group(1));
        }
        Matcher library = Pattern.compile("\\b(System|Math|Arrays)\\.(\\w+)").matcher(code);
        while (library.find()) {
            boolean math = library.group(1).equals("Math");
            holds(math || Set.of("arraycopy", "copyOf", "copyOfRange", "fill").contains(library.group(2)), "4: " + library.group());
        }
        holds(all.chars().allMatch(c -> c < 128), "3: plain characters alone");
        int open = 0;
        int number = 0;
        for (String line : all.split("\n")) {
            number++;
            if (line.matches(" {4}( {4})?[\\w\\[\\] ]+\\(.*\\) \\{")) {
                open = number;
            }
            if (line.matches(" {4}( {4})?\\}")) {
                holds(number - open < 70, "11: the method at line " + open + " is short");
            }
        }
    }

    private static long allocated() {
        com.sun.management.ThreadMXBean bean = (com.sun.management.ThreadMXBean) ManagementFactory.getThreadMXBean();
        return bean.getThreadAllocatedBytes(Thread.currentThread().getId());
    }

    private static void loop(MemoryTransactions x) {
        x.feed(0x7768696c, 0x65283129, 0x7b747279, 0x7b616c77, 0x61797320); // while(1){try{always_
        x.feed(0x313b7468, 0x726f7720, 0x613b7d63, 0x61746368, 0x20717b7d); // 1;throw a;}catch q{}
        x.feed(0x7d202020, 0x20202020, 0x20202020, 0x20202020, 0x20202020); // }
    }

    /** The room of a run has 7.3 million fields and elements, of at most 8 bytes each. */
    private static void room() {
        MemoryTransactions warm = new MemoryTransactions();
        long start = allocated();
        MemoryTransactions x = new MemoryTransactions();
        System.out.println("a new object takes " + (allocated() - start) + " bytes");
        loop(x);
        holds(x.text() == 0, "the loop is a text");
        for (int i = 0; i < 30; i++) {
            loop(x);
            x.feed(0, 0, 0, 0, 0);
            holds(x.text() == -2, "a fault");
        }
        int answers = 0;
        for (int i = 0; i < 80; i++) {
            x.add(i % 8, 0);
            answers += x.play(i, 2000) + x.replays() + x.put(i % 16, i);
        }
        long used = allocated() - start;
        System.out.println("with 480 calls it takes " + used + " bytes, answers add up to " + answers);
        holds(used < 58_400_000, "12: the dearest calls stay in the room");
        holds(warm.rows() == 0, "the other object is as it was");
    }

    public static void main(String[] args) throws IOException {
        face();
        classesInside();
        words();
        room();
        System.out.println(wrong == 0 ? "the rules hold" : wrong + " facts do not hold");
        if (wrong != 0) {
            System.exit(1);
        }
    }
}
