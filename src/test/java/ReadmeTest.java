import java.io.IOException;
import java.lang.reflect.Method;
import java.lang.reflect.Modifier;
import java.nio.file.Files;
import java.nio.file.Path;
import java.util.ArrayList;
import java.util.List;
import java.util.Set;
import java.util.TreeSet;
import java.util.concurrent.TimeUnit;
import java.util.regex.Matcher;
import java.util.regex.Pattern;
import java.util.stream.Stream;

/** What README.md shows compiles, runs and answers as it says. */
public final class ReadmeTest {
    private static final Path PAGE = Path.of("README.md");
    private static final Path TESTS = Path.of("src/test/java");
    private static final String ALL_TESTS = ".ci/run";

    private static final Pattern BLOCK = Pattern.compile("(?ms)^```(\\w+)\n(.*?)^```$");
    private static final Pattern ANSWER = Pattern.compile("(.*;) *// -> ([^:]+)(: .*)?");
    private static final Pattern REFUSED = Pattern.compile("(.*;) *// throws (\\w+)(: .*)?");
    private static final Pattern ANSWERS_NOTHING = Pattern.compile("(x\\.(contract|drought)\\(.*;)( *// (?!->).*)?");
    private static final Pattern NAMED = Pattern.compile("(int \\w+ = )?(.*);");
    private static final Pattern CALL = Pattern.compile("x\\.(\\w+)\\(");

    private ReadmeTest() {
    }

    public static void main(String[] args) throws IOException, InterruptedException {
        String page = Files.readString(PAGE);
        Path room = Files.createTempDirectory("readme");
        try {
            copy(Path.of("src"), room);
            programs(page, room);
            calls(page, room);
            listOfTests(page);
        } finally {
            delete(room);
        }
        Check.end();
    }

    /** The classes that the page shows, the commands behind them, and what these print. */
    private static void programs(String page, Path room) throws IOException, InterruptedException {
        String printed = "";
        int commands = 0;
        int texts = 0;
        Matcher block = BLOCK.matcher(page);
        while (block.find()) {
            String text = block.group(2);
            if (block.group(1).equals("java") && text.contains(" class ")) {
                Files.writeString(room.resolve("Example.java"), text);
            } else if (block.group(1).equals("sh") && text.trim().equals(ALL_TESTS)) {
                Check.equal("that one is there to be run", "" + Files.isExecutable(Path.of(ALL_TESTS)), "true");
                commands++;
            } else if (block.group(1).equals("sh")) {
                printed = run(room, "set -e\n" + text);
                commands++;
            } else if (block.group(1).equals("text")) {
                Check.equal("what the commands print", printed, text);
                texts++;
            }
        }
        Check.equal("commands, and what they print", commands + " " + texts, "3 1");
    }

    /** All calls that the page shows are one run on one object. */
    private static void calls(String page, Path room) throws IOException, InterruptedException {
        List<String> run = new ArrayList<>();
        Set<String> shown = new TreeSet<>();
        Matcher block = BLOCK.matcher(page);
        while (block.find()) {
            if (block.group(1).equals("java") && !block.group(2).contains(" class ")) {
                block.group(2).lines().filter(line -> !line.isBlank()).forEach(run::add);
            }
        }
        StringBuilder program = new StringBuilder();
        for (String line : run) {
            program.append(checked(line)).append('\n');
            Matcher call = CALL.matcher(line);
            while (call.find()) {
                shown.add(call.group(1));
            }
        }
        Check.equal("calls that are shown", shown.toString(), face().toString());
        Files.writeString(room.resolve("Shown.java"), "final class Shown {\n"
                + "public static void main(String[] args) {\n" + program + "Check.end();\n}\n}\n");
        String printed = run(room, "javac -d shown src/main/java/Springward.java src/test/java/support/*.java"
                + " Shown.java && java -cp shown Shown");
        System.out.print(printed);
        Check.equal("answers that are shown", printed, shownAnswers(program) + " answers looked at, 0 wrong\n");
    }

    private static long shownAnswers(CharSequence program) {
        return Pattern.compile("Check\\.(equal|due)\\(").matcher(program).results().count();
    }

    // A line that is of none of these forms is no Java, so that the run does not compile.
    private static String checked(String line) {
        String what = "\"" + line.replaceAll(" *//.*", "").replace("\"", "'") + "\"";
        Matcher refused = REFUSED.matcher(line);
        if (refused.matches()) {
            return "Check.due(" + what + ", \"throws." + refused.group(2) + "\", x, s -> "
                    + refused.group(1).replaceFirst(";$", "") + ");";
        }
        Matcher answer = ANSWER.matcher(line);
        if (answer.matches()) {
            Matcher named = NAMED.matcher(answer.group(1));
            if (named.matches() && named.group(1) != null) {
                String name = named.group(1).split(" ")[1];
                return answer.group(1) + equal(what, name, answer.group(2));
            }
            return equal(what, answer.group(1).replaceFirst(";$", ""), answer.group(2));
        }
        if (line.equals("Springward x = new Springward();") || ANSWERS_NOTHING.matcher(line).matches()) {
            return line;
        }
        return "this line tells no answer: " + line;
    }

    private static String equal(String what, String got, String want) {
        return "Check.equal(" + what + ", String.valueOf(" + got + "), String.valueOf(" + want + "));";
    }

    private static Set<String> face() {
        Set<String> names = new TreeSet<>();
        for (Method method : Springward.class.getDeclaredMethods()) {
            if (Modifier.isPublic(method.getModifiers())) {
                names.add(method.getName());
            }
        }
        return names;
    }

    private static void listOfTests(String page) throws IOException {
        Set<String> listed = new TreeSet<>();
        Matcher row = Pattern.compile("(?m)^\\| `(\\w+Test)` \\| \\S.* \\|$").matcher(page);
        while (row.find()) {
            listed.add(row.group(1));
        }
        Set<String> there = new TreeSet<>();
        for (Path file : files(TESTS, 1)) {
            if (file.toString().endsWith(".java")) {
                there.add(file.getFileName().toString().replace(".java", ""));
            }
        }
        Check.equal("the tests that are listed", listed.toString(), there.toString());
        Matcher support = Pattern.compile("`(support/\\w+\\.java)").matcher(page);
        while (support.find()) {
            Check.equal(support.group(1), "" + Files.exists(TESTS.resolve(support.group(1))), "true");
        }
    }

    private static String run(Path room, String commands) throws IOException, InterruptedException {
        Path log = room.resolve("log");
        Process shell = new ProcessBuilder("bash", "-c", commands).directory(room.toFile())
                .redirectErrorStream(true).redirectOutput(log.toFile()).start();
        boolean ended = shell.waitFor(120, TimeUnit.SECONDS);
        if (!ended) {
            shell.destroyForcibly();
        }
        String printed = Files.readString(log);
        Check.equal(commands + "\nended, with\n" + printed, ended ? "" + shell.exitValue() : "never", "0");
        return printed;
    }

    private static List<Path> files(Path from, int depth) throws IOException {
        try (Stream<Path> found = Files.walk(from, depth)) {
            return found.toList();
        }
    }

    private static void copy(Path from, Path to) throws IOException {
        for (Path file : files(from, 20)) {
            Files.copy(file, to.resolve(file.toString()));
        }
    }

    private static void delete(Path room) throws IOException {
        List<Path> all = files(room, 20);
        for (int i = all.size() - 1; i >= 0; i--) {
            Files.delete(all.get(i));
        }
    }
}
