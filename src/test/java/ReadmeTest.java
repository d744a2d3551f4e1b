import java.io.IOException;
import java.lang.reflect.Field;
import java.lang.reflect.Method;
import java.lang.reflect.Modifier;
import java.nio.file.Files;
import java.nio.file.Path;
import java.util.ArrayList;
import java.util.Comparator;
import java.util.List;
import java.util.Set;
import java.util.TreeSet;
import java.util.regex.Matcher;
import java.util.regex.Pattern;
import java.util.stream.Stream;

/** That README.md says what is so: its example and the answers in it, its commands, the names that it tells. */
public final class ReadmeTest {
    private static final Path README = Path.of("README.md");
    private static final Path EXAMPLE = Path.of("src/example/java/Example.java");
    private static final String ALL_TESTS = ".ci/run\n";
    private static int asked;
    private static int wrong;

    public static void main(String[] args) throws IOException, InterruptedException {
        String page = Files.readString(README);
        List<String> answers = answersIn(Files.readString(EXAMPLE));
        must(answers.size() > 20, "the example tells answers: " + answers.size());
        must(blocks(page, "java").equals(List.of(Files.readString(EXAMPLE))), "the example stands in " + EXAMPLE);
        commands(blocks(page, "sh"), answers);
        calls(page);
        constants(page);
        tests(page);
        files(page);
        System.out.println("readme: " + asked + " asked, " + wrong + " wrong");
        if (wrong != 0) {
            System.exit(1);
        }
    }

    private static void must(boolean so, String what) {
        asked++;
        if (!so) {
            wrong++;
            System.out.println("readme: not so: " + what);
        }
    }

    private static List<String> blocks(String page, String language) {
        List<String> found = new ArrayList<>();
        Matcher block = Pattern.compile("(?ms)^```" + language + "\n(.*?)^```$").matcher(page);
        while (block.find()) {
            found.add(block.group(1));
        }
        return found;
    }

    private static List<String> answersIn(String example) {
        List<String> found = new ArrayList<>();
        for (String line : example.split("\n")) {
            if (line.contains("tell(x")) {
                Matcher answer = Pattern.compile("\\); +// (-?\\d+)(:|$)").matcher(line);
                boolean told = answer.find();
                must(told, "its answer is told: " + line.trim());
                found.add(told ? answer.group(1) : "");
            }
        }
        return found;
    }

    /** The commands run in a copy of the sources, so that they leave nothing in the project's folder. */
    private static void commands(List<String> blocks, List<String> answers) throws IOException, InterruptedException {
        must(blocks.size() == 3 && blocks.contains(ALL_TESTS), "three blocks of commands: " + blocks);
        must(Files.isExecutable(Path.of(".ci/run")), ".ci/run can be run");
        Path folder = Files.createTempDirectory("readme");
        try {
            copy(Path.of("src"), folder);
            for (String block : blocks) {
                if (!block.equals(ALL_TESTS)) {
                    List<String> told = told(block, folder);
                    must(!block.contains("Example") || told.equals(answers), "the example answers " + answers + ", not " + told);
                }
            }
        } finally {
            remove(folder);
        }
    }

    private static List<String> told(String block, Path folder) throws IOException, InterruptedException {
        Path told = folder.resolve("told");
        Path amiss = folder.resolve("amiss");
        Process p = new ProcessBuilder("sh", "-ec", block).directory(folder.toFile())
            .redirectOutput(told.toFile()).redirectError(amiss.toFile()).start();
        int code = p.waitFor();
        List<String> lines = Files.readAllLines(told);
        must(code == 0, "it runs: " + block + lines + Files.readAllLines(amiss));
        return lines;
    }

    private static void copy(Path from, Path to) throws IOException {
        List<Path> all;
        try (Stream<Path> walk = Files.walk(from)) {
            all = walk.toList();
        }
        for (Path one : all) {
            Files.copy(one, to.resolve(one.toString()));
        }
    }

    private static void remove(Path folder) throws IOException {
        List<Path> all;
        try (Stream<Path> walk = Files.walk(folder)) {
            all = walk.sorted(Comparator.reverseOrder()).toList();
        }
        for (Path one : all) {
            Files.delete(one);
        }
    }

    /** The first cells of the table of calls name each call once. */
    private static void calls(String page) {
        String table = page.substring(page.indexOf("| calls |"), page.indexOf("- Judges, skaters"));
        List<String> named = new ArrayList<>();
        for (String row : table.split("\n")) {
            if (row.startsWith("| `")) {
                Matcher name = Pattern.compile("`(\\w+)`").matcher(row.substring(0, row.indexOf('|', 1)));
                while (name.find()) {
                    named.add(name.group(1));
                }
            }
        }
        List<String> due = new ArrayList<>();
        for (Method m : ThrownMarks.class.getDeclaredMethods()) {
            if (Modifier.isPublic(m.getModifiers())) {
                due.add(m.getName());
            }
        }
        named.sort(null);
        due.sort(null);
        must(due.equals(named), "the calls are " + due + ", not " + named);
    }

    private static void constants(String page) {
        for (Field f : ThrownMarks.class.getDeclaredFields()) {
            if (Modifier.isPublic(f.getModifiers())) {
                Matcher told = Pattern.compile("`" + f.getName() + "` (?:\\(|is )(-?\\d+)").matcher(page);
                must(told.find() && told.group(1).equals(valueOf(f)), f.getName() + " is " + valueOf(f));
            }
        }
    }

    private static String valueOf(Field f) {
        try {
            return String.valueOf(f.getInt(null));
        } catch (IllegalAccessException e) {
            return e.toString();
        }
    }

    private static void tests(String page) throws IOException {
        Set<String> named = new TreeSet<>();
        String table = page.substring(page.indexOf("| test |"));
        for (String row : table.split("\n")) {
            Matcher name = Pattern.compile("\\w+Test\\b").matcher(row.substring(0, Math.max(0, row.indexOf('|', 1))));
            while (name.find()) {
                named.add(name.group());
            }
        }
        Set<String> due = new TreeSet<>();
        try (Stream<Path> list = Files.list(Path.of("src/test/java"))) {
            list.map(f -> f.getFileName().toString()).filter(n -> n.endsWith("Test.java"))
                .forEach(n -> due.add(n.replace(".java", "")));
        }
        must(due.equals(named), "the tests are " + due + ", not " + named);
    }

    private static void files(String page) {
        Matcher name = Pattern.compile("`((?:\\.\\./|src/|\\.ci/)[\\w./]+)`").matcher(page);
        int many = 0;
        while (name.find()) {
            many++;
            must(Files.exists(Path.of(name.group(1))), "there is " + name.group(1));
        }
        must(many > 5, "files are named: " + many);
    }
}
