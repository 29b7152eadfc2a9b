import java.io.IOException;
import java.lang.reflect.Method;
import java.lang.reflect.Modifier;
import java.nio.file.DirectoryStream;
import java.nio.file.Files;
import java.nio.file.Path;
import java.util.ArrayList;
import java.util.List;
import java.util.regex.Matcher;
import java.util.regex.Pattern;

/** README.md works as it is written: its calls, its commands, its ERRORS, the paths and calls that it names. */
public final class ReadmeTest {
    private static final Path README = Path.of("README.md");
    private static final Path TESTS = Path.of("src/test/java");
    private static final String SOURCE = "src/main/java/ScullerySweets.java";
    /** The whole of the tests; this test is one of them, so it can't run them again. */
    private static final String ALL_TESTS = ".ci/run";
    private static final Pattern MAKES = Pattern.compile("ScullerySweets \\w+ = new ScullerySweets\\(\\);");
    private static final Pattern CALL =
        Pattern.compile("(int \\w+ = )?(\\w+\\.\\w+\\(.*?\\)); +// .*answers (?:\\D*, )?(-?\\d+)");
    private static int wrong = 0;

    private static void due(boolean is, String what) {
        if (!is) {
            wrong++;
            System.out.println(what);
        }
    }

    private static List<String> blocks(String page, String language) {
        List<String> found = new ArrayList<>();
        Matcher m = Pattern.compile("(?s)```" + language + "\n(.*?)```").matcher(page);
        while (m.find()) {
            found.add(m.group(1));
        }
        due(!found.isEmpty(), "README.md has no block of " + language);
        return found;
    }

    /** A program of the block's own lines, in which each call is held against the answer that its line tells. */
    private static String program(String block) {
        StringBuilder s = new StringBuilder("public final class Page {\n  private static int wrong = 0;\n");
        s.append("  private static int due(int got, int want, String line) {\n    if (got != want) { wrong++; ");
        s.append("System.out.println(\"README.md: \" + line + \" answered \" + got); }\n    return got;\n  }\n");
        s.append("  public static void main(String[] args) {\n");
        for (String line : block.split("\n")) {
            Matcher call = CALL.matcher(line);
            if (call.matches()) {
                String start = call.group(1) == null ? "" : call.group(1);
                s.append(start).append("due(").append(call.group(2)).append(", ").append(call.group(3)).append(", \"");
                s.append(line.replace("\\", "\\\\").replace("\"", "\\\"")).append("\");\n");
            } else {
                due(MAKES.matcher(line).matches(), "README.md tells no answer: " + line);
                s.append(line).append('\n');
            }
        }
        return s.append("    System.exit(wrong == 0 ? 0 : 1);\n  }\n}\n").toString();
    }

    private static int run(String script) throws IOException, InterruptedException {
        return new ProcessBuilder("sh", "-e", "-c", script).inheritIO().start().waitFor();
    }

    private static void calls(String page) throws IOException, InterruptedException {
        Path dir = Files.createTempDirectory("readme");
        Path file = dir.resolve("Page.java");
        for (String block : blocks(page, "java")) {
            Files.writeString(file, program(block));
            String out = "'" + dir + "'";
            due(run("javac -d " + out + " " + SOURCE + " " + out + "/Page.java\njava -cp " + out + " Page") == 0,
                "README.md: its calls don't go as it says");
        }
        try (DirectoryStream<Path> made = Files.newDirectoryStream(dir)) {
            for (Path p : made) {
                Files.delete(p);
            }
        }
        Files.delete(dir);
    }

    private static void commands(String page) throws IOException, InterruptedException {
        boolean all = false;
        for (String block : blocks(page, "sh")) {
            if (block.strip().equals(ALL_TESTS)) {
                all = true;
                due(Files.isExecutable(Path.of(ALL_TESTS)), ALL_TESTS + " can't be run");
            } else {
                due(run(block) == 0, "README.md: this doesn't run:\n" + block);
            }
        }
        due(all, "README.md doesn't say how all tests are run");
    }

    private static void names(String page) throws IOException {
        Matcher paths = Pattern.compile("`((?:src|\\.ci|\\.\\./shared)/[\\w./]+)`").matcher(page);
        while (paths.find()) {
            due(Files.exists(Path.of(paths.group(1))), "README.md: there is no " + paths.group(1));
        }
        try (DirectoryStream<Path> tests = Files.newDirectoryStream(TESTS, "*.java")) {
            for (Path test : tests) {
                due(page.contains("`" + TESTS + "/" + test.getFileName() + "`"), "README.md lacks " + test);
            }
        }
        for (Method m : ScullerySweets.class.getDeclaredMethods()) {
            boolean isPublic = Modifier.isPublic(m.getModifiers());
            due(!isPublic || page.contains("`" + m.getName() + "`"), "README.md lacks the call " + m.getName());
        }
    }

    /** One call for each ERROR: README.md has a row with the answer that the class really gives. */
    private static void errors(String page) {
        ScullerySweets x = new ScullerySweets();
        x.diner(0, 0);
        int none = x.restore();
        int kind = x.as(0, 1);
        int beyond = x.diner(70, 0);
        int state = x.sheet(0, 8, -1);
        for (int i = 0; i < 20; i++) {
            x.tell(0);
        }
        int full = x.tell(0);
        int[] answers = {beyond, none, state, full, kind};
        String[] words = {"BEYOND", "NONE", "STATE", "FULL", "KIND"};
        for (int i = 0; i < words.length; i++) {
            String row = "| " + (i + 1) + " | " + answers[i] + " | " + words[i];
            due(page.contains(row), "README.md lacks the row " + row);
            due(x.told(i + 1) == 1, "told(" + (i + 1) + ") isn't 1");
        }
    }

    public static void main(String[] args) throws IOException, InterruptedException {
        String page = Files.readString(README);
        calls(page);
        commands(page);
        names(page);
        errors(page);
        System.out.println(wrong == 0 ? "README.md works as it is written" : wrong + " things in README.md are not so");
        if (wrong != 0) {
            System.exit(1);
        }
    }
}
