import java.io.File;
import java.io.IOException;
import java.lang.reflect.Method;
import java.lang.reflect.Modifier;
import java.net.URL;
import java.net.URLClassLoader;
import java.nio.file.Files;
import java.nio.file.Path;
import java.util.ArrayList;
import java.util.List;
import java.util.regex.Matcher;
import java.util.regex.Pattern;
import javax.tools.ToolProvider;

/** What README.md says is so: its example compiles and answers as told, and nothing is left out. */
public final class ReadmeTest {
    private static final Due due = new Due();
    private static final Pattern ASKS = Pattern.compile("x\\.\\w+\\(.*\\);");
    private static final Pattern ANSWERS = Pattern.compile("(x\\.\\w+\\(.*\\)); +// (-?[0-9]+)(:.*)?");

    private final List<String> calls = new ArrayList<>();
    private final List<Long> told = new ArrayList<>();
    private final StringBuilder program = new StringBuilder("public final class ReadmeExample {\n"
            + "    public static void ask(java.util.List<Long> answers) {\n");

    public static void main(String[] args) throws Exception {
        String readme = Files.readString(Path.of("README.md"));
        new ReadmeTest().example(readme);
        namesEachCall(readme);
        namesEachTest(readme);
        constants(readme);
        due.end();
    }

    private void example(String readme) throws Exception {
        Matcher block = Pattern.compile("(?s)```java\n(.*?)```").matcher(readme);
        due.holds("there is an example", block.find());
        for (String line : block.group(1).split("\n")) {
            take(line);
        }
        program.append("    }\n}\n");
        due.holds("it asks at most 512 calls", calls.size() < 512 - 40);
        List<Long> answers = answersOfProgram();
        due.is("so many answers", answers.size(), told.size());
        for (int i = 0; i < answers.size() && i < told.size(); i++) {
            due.is("README: " + calls.get(i), answers.get(i), told.get(i));
        }
    }

    /** A line that begins with a call tells its answer; others stand as they are. */
    private void take(String line) {
        Matcher answer = ANSWERS.matcher(line);
        if (answer.matches()) {
            calls.add(answer.group(1));
            told.add(Long.parseLong(answer.group(2)));
            program.append("answers.add((long) ").append(answer.group(1)).append(");\n");
            return;
        }
        due.holds("it tells what this answers: " + line, !ASKS.matcher(line).lookingAt());
        program.append(line).append('\n');
    }

    private List<Long> answersOfProgram() throws Exception {
        List<Long> answers = new ArrayList<>();
        Path place = Files.createTempDirectory("readme");
        try {
            Path file = place.resolve("ReadmeExample.java");
            Files.writeString(file, program);
            int code = ToolProvider.getSystemJavaCompiler().run(null, null, null, "-cp",
                    System.getProperty("java.class.path"), "-d", place.toString(), file.toString());
            due.is("it compiles", code, 0);
            if (code == 0) {
                try (URLClassLoader loader = new URLClassLoader(new URL[] {place.toUri().toURL()})) {
                    loader.loadClass("ReadmeExample").getMethod("ask", List.class).invoke(null, answers);
                }
            }
        } finally {
            remove(place);
        }
        return answers;
    }

    private static void remove(Path place) throws IOException {
        for (File file : place.toFile().listFiles()) {
            Files.delete(file.toPath());
        }
        Files.delete(place);
    }

    private static void namesEachCall(String readme) {
        for (Method m : SmokedLetters.class.getDeclaredMethods()) {
            if (Modifier.isPublic(m.getModifiers())) {
                due.holds("the example asks " + m.getName(), readme.contains("x." + m.getName() + "("));
            }
        }
    }

    private static void namesEachTest(String readme) {
        for (File file : new File("src/test/java").listFiles()) {
            String name = file.getName().replace(".java", "");
            due.holds("README names " + name, readme.contains("`" + name + "`") || readme.contains("`" + name + "."));
        }
        Matcher names = Pattern.compile("`(\\w+Test)`").matcher(readme);
        while (names.find()) {
            due.holds("there is " + names.group(1), Files.exists(Path.of("src/test/java/" + names.group(1) + ".java")));
        }
    }

    private static void constants(String readme) {
        String[] names = {"BAD", "STATE", "FULL", "NONE", "NO"};
        int[] values = {SmokedLetters.BAD, SmokedLetters.STATE, SmokedLetters.FULL, SmokedLetters.NONE, SmokedLetters.NO};
        for (int i = 0; i < names.length; i++) {
            due.holds("README tells " + names[i], readme.contains("`" + names[i] + "` (" + values[i] + ")"));
        }
    }
}
