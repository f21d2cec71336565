import java.io.IOException;
import java.lang.reflect.Field;
import java.lang.reflect.Method;
import java.lang.reflect.Modifier;
import java.nio.file.Files;
import java.nio.file.Path;
import java.util.ArrayList;
import java.util.Arrays;
import java.util.List;
import java.util.Set;
import java.util.TreeSet;
import java.util.regex.Matcher;
import java.util.regex.Pattern;

/** The rules of LANGUAGE.md that can be seen from the class and its text. */
public final class LanguageTest {
    private static final Due due = new Due();
    private static final String FACE = "back(int) boat(int,int) brown(int) burn() chain(int,int) "
            + "clean(int,int):long clear() clerk(int,int) count(int) day() island() keep(int) letters(int) "
            + "most(int,int) now(int) plan(int,int) puts(int,int) rate(int,int) sails(int) smokes(int) "
            + "soonest(int) stood(int) tears() trace():long traveller(int,int) type(int) undo() waits(int) "
            + "well(int,int,int):long whose(int) word(int) writes(int)";

    public static void main(String[] args) throws IOException {
        face();
        classes();
        source(Files.readString(Path.of("src/main/java/SmokedLetters.java")));
        due.end();
    }

    private static String told(Method m) {
        List<String> types = new ArrayList<>();
        for (Class<?> type : m.getParameterTypes()) {
            types.add(type.getName());
        }
        String answers = m.getReturnType() == int.class ? "" : ":" + m.getReturnType().getName();
        return m.getName() + "(" + String.join(",", types) + ")" + answers;
    }

    private static void face() {
        Class<?> c = SmokedLetters.class;
        due.holds("rule 1: public and final", Modifier.isPublic(c.getModifiers()) && Modifier.isFinal(c.getModifiers()));
        Set<String> open = new TreeSet<>();
        for (Method m : c.getDeclaredMethods()) {
            if (!Modifier.isPrivate(m.getModifiers()) && !m.isSynthetic()) {
                open.add(told(m));
            }
        }
        Set<String> want = new TreeSet<>(Arrays.asList(FACE.split(" ")));
        due.holds("rule 1: the face's methods, but " + open, open.equals(want));
        Set<String> constants = new TreeSet<>();
        for (Field f : c.getDeclaredFields()) {
            if (!Modifier.isPrivate(f.getModifiers()) && !f.isSynthetic()) {
                constants.add(f.getName());
            }
        }
        due.holds("rule 1: the face's constants, but " + constants,
                constants.equals(new TreeSet<>(List.of("BAD", "STATE", "FULL", "NONE", "NO"))));
        due.is("rule 1: constructors", c.getConstructors().length, 1);
    }

    private static void classes() {
        List<Class<?>> all = new ArrayList<>(Arrays.asList(SmokedLetters.class.getDeclaredClasses()));
        due.holds("rule 11: some twelve classes", all.size() < 12);
        for (Class<?> c : all) {
            due.holds("rule 1: static " + c, Modifier.isStatic(c.getModifiers()) && !Modifier.isPublic(c.getModifiers()));
        }
        all.add(SmokedLetters.class);
        Set<String> open = new TreeSet<>();
        for (String method : FACE.split(" ")) {
            open.add(method.substring(0, method.indexOf('(')));
        }
        for (Class<?> c : all) {
            int fields = 0;
            for (Field f : c.getDeclaredFields()) {
                boolean shared = Modifier.isStatic(f.getModifiers());
                due.holds("rule 5: final " + f, !shared || Modifier.isFinal(f.getModifiers()));
                fields += shared ? 0 : 1;
            }
            due.holds("rule 11: some twenty fields in " + c, fields <= 20);
            for (Method m : c.getDeclaredMethods()) {
                due.holds("rule 11: seven parameters in " + m, m.getParameterCount() <= 7);
                boolean face = c == SmokedLetters.class && Modifier.isPublic(m.getModifiers());
                due.holds("rule 1: a public one's name " + m, face || !open.contains(m.getName()));
            }
        }
    }

    private static void source(String source) {
        String code = source.replaceAll("(?s)/\\*.*?\\*/", "").replaceAll("//[^\n]*", "");
        String[] words = {"throw", "throws", "try", "catch", "synchronized", "assert", "package", "goto", "native",
            "volatile", "transient", "hashCode", "toString", "System", "Object", "Thread", "var"};
        for (String word : words) {
            due.holds("rule 6: no " + word, !Pattern.compile("\\b" + word + "\\b").matcher(code).find());
        }
        due.holds("rule 2: no lambda", !code.contains("->") && !code.contains("::"));
        Matcher imports = Pattern.compile("import ([^;]+);").matcher(code);
        while (imports.find()) {
            due.holds("rule 4: " + imports.group(1), imports.group(1).equals("java.util.Arrays"));
        }
        for (String call : new String[] {"Arrays", "Math", "Integer", "Long"}) {
            Matcher calls = Pattern.compile("\\b" + call + "\\.(\\w+)").matcher(code);
            while (calls.find()) {
                boolean fine = List.of("fill", "min", "max", "bitCount", "numberOfTrailingZeros").contains(calls.group(1));
                due.holds("rule 4: " + calls.group(), fine);
            }
        }
        shortMethods(source);
        makesInConstructorsAlone(code);
    }

    /** A field's first value, or a line of a loop in a constructor that fills an array. */
    private static void makesInConstructorsAlone(String code) {
        Pattern field = Pattern.compile(" {4,8}(private |final )+[\\w\\[\\]]+ \\w+ = new .*;|"
                + " {4}private Island \\w+ = new Island\\(\\);");
        Pattern filled = Pattern.compile(" {12,16}(images|past)\\[i\\] = new Now\\(\\);");
        for (String line : code.split("\n")) {
            if (Pattern.compile("\\bnew\\b").matcher(line).find()) {
                boolean fine = field.matcher(line).matches() || filled.matcher(line).matches();
                due.holds("rule 12: no call makes an object, but " + line.trim(), fine);
            }
        }
    }

    private static void shortMethods(String source) {
        String[] lines = source.split("\n");
        for (int i = 0; i < lines.length; i++) {
            Matcher head = Pattern.compile("^( {4}| {8})\\w[^=;]*\\(.*\\) \\{$").matcher(lines[i]);
            if (!head.matches()) {
                continue;
            }
            int end = i;
            while (end < lines.length && !lines[end].equals(head.group(1) + "}")) {
                end++;
            }
            due.holds("rule 11: some sixty lines: " + lines[i].trim(), end - i < 60);
        }
    }
}
