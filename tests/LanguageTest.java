import java.lang.reflect.Member;
import java.lang.reflect.Method;
import java.lang.reflect.Modifier;
import java.nio.file.Files;
import java.nio.file.Path;
import java.util.ArrayList;
import java.util.Arrays;
import java.util.List;
import java.util.Set;
import java.util.TreeSet;
import java.util.regex.Matcher;
import java.util.regex.Pattern;

/** What of LANGUAGE.md can be seen by a look at the file and at the class. */
public final class LanguageTest {
    private static final String FACE = "feed law drum orders ticks tried drumIs frameIs seen done often same story "
            + "painted edits common twins both paced words crowd linked unseen necklaces leaving marked seed keep "
            + "undo check count";

    public static void main(String[] args) throws Exception {
        String source = Files.readString(Path.of("src/main/java/RoundSentences.java"));
        String code = source.replaceAll("(?s)/\\*.*?\\*/", "").replaceAll("//.*", "").replaceAll("'.'", "0");
        face();
        words(code);
        methods(code);
        Bench.end();
    }

    private static boolean isHidden(Member m) {
        return m.isSynthetic() || Modifier.isPrivate(m.getModifiers());
    }

    private static void face() {
        Class<?> c = RoundSentences.class;
        Bench.due("public and final", Modifier.isPublic(c.getModifiers()) && Modifier.isFinal(c.getModifiers()), true);
        Set<String> shown = new TreeSet<>();
        for (Method m : c.getDeclaredMethods()) {
            if (!isHidden(m)) {
                shown.add(m.getName());
                Bench.due(m.getName() + " is public", Modifier.isPublic(m.getModifiers()), true);
            }
        }
        Bench.due("the face", shown.toString(), new TreeSet<>(Arrays.asList(FACE.split(" "))).toString());
        long fields = Arrays.stream(c.getDeclaredFields()).filter(f -> !isHidden(f)).count();
        Bench.due("NONE alone", fields, 1);
        Bench.due("constructors", c.getDeclaredConstructors().length, 1);
        Bench.due("classes", c.getDeclaredClasses().length + 1 <= 12, true);
        for (Class<?> inner : c.getDeclaredClasses()) {
            Bench.due(inner + " is static", Modifier.isStatic(inner.getModifiers()), true);
            Bench.due(inner + " has inner ones", inner.getDeclaredClasses().length, 0);
            for (Method m : inner.getDeclaredMethods()) {
                Bench.due(m + " bears a name of the face", Arrays.asList(FACE.split(" ")).contains(m.getName()), false);
            }
            long own = Arrays.stream(inner.getDeclaredFields()).filter(f -> !Modifier.isStatic(f.getModifiers())).count();
            Bench.due(inner + " has few fields", own <= 20, true);
        }
    }

    private static void words(String code) {
        String[] banned = {
            "throw", "throws", "try", "catch", "synchronized", "assert", "import", "package", "double", "float", "equals",
            "hashCode", "toString", "instanceof", "var", "static \\{", "System\\.(?!arraycopy)", "\\w+Exact", "Thread", "@\\w+"
        };
        for (String word : banned) {
            Bench.due("no " + word, Pattern.compile("(?<!\\w)" + word + "(?!\\w)").matcher(code).find(), false);
        }
        Bench.due("no lambda", code.contains("->"), false);
        Bench.due("no method reference", code.contains("::"), false);
        Bench.due("no array of two dimensions of objects", code.contains("[][]"), false);
    }

    private static void methods(String code) {
        Pattern head = Pattern.compile("^ {4,8}(?:\\w+ )*(?:\\w+(?:\\[])? )?(\\w+)\\(([^)]*)\\) \\{$");
        List<String> lines = new ArrayList<>(Arrays.asList(code.split("\n")));
        int found = 0;
        for (int i = 0; i < lines.size(); i++) {
            Matcher m = head.matcher(lines.get(i));
            if (!m.matches() || Set.of("if", "for", "while", "switch").contains(m.group(1))) {
                continue;
            }
            found++;
            String indent = lines.get(i).replaceAll("\\S.*", "");
            int end = i;
            boolean makes = false;
            while (!lines.get(end).equals(indent + "}")) {
                makes |= lines.get(end).contains("new ");
                end++;
            }
            Bench.due(m.group(1) + " is short", end - i < 60, true);
            Bench.due(m.group(1) + " takes few", m.group(2).split(",").length <= 7, true);
            // The room is small, so only constructors, whose names are those of classes, make anything.
            Bench.due(m.group(1) + " makes nothing", makes && !Character.isUpperCase(m.group(1).charAt(0)), false);
        }
        Bench.due("methods were found", found > 100, true);
    }
}
