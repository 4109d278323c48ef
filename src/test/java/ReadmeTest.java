import java.io.File;
import java.io.IOException;
import java.lang.reflect.Method;
import java.lang.reflect.Modifier;
import java.nio.file.Files;
import java.nio.file.Path;
import java.util.ArrayList;
import java.util.List;
import java.util.regex.Matcher;
import java.util.regex.Pattern;
import java.util.stream.Collectors;
import java.util.stream.Stream;

/** README.md is so when it is tried: its Java is compiled and its answers compared, its commands are run. */
public final class ReadmeTest {
    private static final Path HERE = Path.of("").toAbsolutePath();
    private static final Pattern BLOCK = Pattern.compile("(?ms)^```(\\w+)\n(.*?)^```$");
    private static final Pattern ANSWERED = Pattern.compile("((?:int|long) (\\w+) = )?(.*\\)); *// (-?\\d+)(?:\\W.*)?");

    private static int wrong = 0;
    private static int answers = 0;

    private static void holds(boolean fact, String what) {
        if (!fact) {
            wrong++;
            System.out.println("does not hold: " + what);
        }
    }

    private static List<String> blocks(String page, String language) {
        List<String> found = new ArrayList<>();
        Matcher m = BLOCK.matcher(page);
        while (m.find()) {
            if (m.group(1).equals(language)) {
                found.add(m.group(2));
            }
        }
        return found;
    }

    /** A line of the page, with its answer compared if it tells one. */
    private static String checked(String line) {
        Matcher m = ANSWERED.matcher(line);
        if (!m.matches()) {
            return line;
        }
        answers++;
        String call = m.group(3).replace("\\", "\\\\").replace("\"", "\\\"");
        String declared = m.group(1) == null ? "" : line + "\n";
        String got = m.group(1) == null ? m.group(3) : m.group(2);
        return declared + "due(\"" + call + "\", " + got + ", " + m.group(4) + ");";
    }

    /** One class of all Java on the page: methods stay what they are, rows of calls come into main. */
    private static String program(List<String> blocks) {
        StringBuilder methods = new StringBuilder();
        StringBuilder main = new StringBuilder();
        for (String block : blocks) {
            if (block.startsWith("static ")) {
                methods.append(block);
            } else {
                main.append("{\n").append(block.lines().map(ReadmeTest::checked).collect(Collectors.joining("\n"))).append("\n}\n");
            }
        }
        return "class OfReadme {\nstatic int wrong = 0;\n"
            + "static void due(String call, long got, long want) { if (got != want) { wrong++;"
            + " System.out.println(\"README.md: \" + call + \" answered \" + got + \", the page says \" + want); } }\n"
            + methods + "public static void main(String[] args) {\n" + main + "System.exit(wrong == 0 ? 0 : 1);\n}\n}\n";
    }

    private static boolean runs(Path where, String commands) throws IOException, InterruptedException {
        File told = where.resolve("told").toFile();
        int code = new ProcessBuilder("bash", "-e", "-c", commands).directory(where.toFile())
            .redirectErrorStream(true).redirectOutput(told).start().waitFor();
        if (code != 0) {
            System.out.println(Files.readString(told.toPath()));
        }
        return code == 0;
    }

    private static void answersAreSo(Path where, String page) throws IOException, InterruptedException {
        Files.writeString(where.resolve("OfReadme.java"), program(blocks(page, "java")));
        holds(answers > 30, "the page tells answers");
        holds(runs(where, "javac -d own src/main/java/MemoryTransactions.java OfReadme.java && java -cp own OfReadme"),
            "the Java of README.md answers as the page says");
    }

    private static void commandsRun(Path where, String page) throws IOException, InterruptedException {
        List<String> commands = blocks(page, "sh");
        holds(commands.size() >= 3, "the page has commands");
        for (String each : commands) {
            holds(runs(where, "rm -rf out\n" + each), "this of README.md ends with exit code 0: " + each);
        }
        holds(Files.isExecutable(HERE.resolve(".ci/run")) && page.contains("`bash .ci/run`"), ".ci/run is there, and named");
    }

    private static void nothingIsLeftOut(String page) throws IOException {
        for (Method m : MemoryTransactions.class.getDeclaredMethods()) {
            if (Modifier.isPublic(m.getModifiers())) {
                int parameters = m.getParameterCount();
                String one = "\\w+";
                String all = parameters == 0 ? "" : one + (", " + one).repeat(parameters - 1);
                holds(Pattern.compile("`" + m.getName() + "\\(" + all + "\\)`").matcher(page).find(), "the page tells " + m.getName());
            }
        }
        try (Stream<Path> files = Files.list(HERE.resolve("src/test/java"))) {
            for (Path file : files.collect(Collectors.toList())) {
                String name = file.getFileName().toString();
                String told = name.endsWith("Test.java") ? "`src/test/java/" + name + "`" : "`" + name.replace(".java", "");
                holds(page.contains(told), "the page tells " + name);
            }
        }
        Matcher m = Pattern.compile("`((?:src|\\.\\./shared)/[\\w/.]+)`").matcher(page);
        while (m.find()) {
            holds(Files.exists(HERE.resolve(m.group(1))), m.group(1) + " is there");
        }
    }

    /** A checkout of its own, so that the commands of the page leave nothing behind in this one. */
    private static Path checkout(Path room) throws IOException, InterruptedException {
        Path copy = Files.createDirectory(room.resolve("main"));
        Files.createSymbolicLink(room.resolve("shared"), HERE.resolve("../shared").normalize());
        holds(runs(copy, "cp -r '" + HERE.resolve("src") + "' '" + HERE.resolve("README.md") + "' ."), "the copy");
        return copy;
    }

    public static void main(String[] args) throws IOException, InterruptedException {
        String page = Files.readString(HERE.resolve("README.md"));
        nothingIsLeftOut(page);
        Path room = Files.createTempDirectory("readme");
        try {
            Path copy = checkout(room);
            answersAreSo(copy, page);
            commandsRun(copy, page);
        } finally {
            new ProcessBuilder("rm", "-rf", room.toString()).start().waitFor();
        }
        System.out.println(wrong == 0 ? answers + " answers of the page are so" : wrong + " facts do not hold");
        if (wrong != 0) {
            System.exit(1);
        }
    }
}
