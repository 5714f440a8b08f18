import java.lang.reflect.Method;
import java.lang.reflect.Modifier;
import java.nio.file.Files;
import java.nio.file.Path;
import java.util.regex.Matcher;
import java.util.regex.Pattern;
import javax.tools.ToolProvider;

/** README.md: its examples answer what they say, and it tells every call. */
public final class ReadmeTest {
    private static final Pattern BLOCK = Pattern.compile("(?s)```java\n(.*?)```");
    private static final Pattern EXAMPLE = Pattern.compile("(?m)^(land\\..*\\)); +// (-?\\d+|true|false): .*$");

    public static void main(String[] args) throws Exception {
        String page = Files.readString(Path.of("README.md"));
        everyCall(page);
        examples(page);
        Bench.end();
    }

    private static void everyCall(String page) {
        for (Method m : RoundSentences.class.getDeclaredMethods()) {
            if (Modifier.isPublic(m.getModifiers())) {
                Pattern row = Pattern.compile("(?m)^\\| `" + m.getName() + "\\(([^)]*)\\)` \\|");
                Matcher found = row.matcher(page);
                Bench.due(m.getName() + " is told", found.find(), true);
                Bench.due(m.getName() + " is told once", found.find(), false);
            }
        }
    }

    /** The examples become a program of their own, in which each answer told behind a call is due. */
    private static void examples(String page) throws Exception {
        StringBuilder program = new StringBuilder("final class Examples {\n");
        program.append("static void due(String call, Object got, Object want) {\n");
        program.append("    Bench.due(call, String.valueOf(got), String.valueOf(want));\n}\n");
        Matcher block = BLOCK.matcher(page);
        int blocks = 0;
        int told = 0;
        while (block.find()) {
            if (block.group(1).startsWith("static")) {
                program.append(block.group(1));
                continue;
            }
            Matcher example = EXAMPLE.matcher(block.group(1));
            told += (int) example.results().count();
            int calls = block.group(1).split("\n").length - 1;
            Bench.due("each call but the first line has its answer", example.reset().results().count(), calls);
            program.append("static void block").append(blocks++).append("() {\n");
            program.append(example.reset().replaceAll(ReadmeTest::asDue)).append("}\n");
        }
        Bench.due("examples were found", told > 30, true);
        program.append("public static void main(String[] args) {\n");
        for (int i = 0; i < blocks; i++) {
            program.append("    block").append(i).append("();\n");
        }
        run(program.append("}\n}\n").toString());
    }

    private static String asDue(java.util.regex.MatchResult example) {
        String call = example.group(1);
        String named = call.replace("\"", "'");
        return Matcher.quoteReplacement("due(\"" + named + "\", " + call + ", " + example.group(2) + ");");
    }

    /** Compiled beside the other classes, so that it finds Bench, which is not public. */
    private static void run(String program) throws Exception {
        Path classes = Path.of(System.getProperty("java.class.path"));
        Path file = classes.resolve("Examples.java");
        Files.writeString(file, program);
        int compiled = ToolProvider.getSystemJavaCompiler().run(null, null, null, "-encoding", "UTF-8",
                "-cp", classes.toString(), "-d", classes.toString(), file.toString());
        Bench.due("the examples compile", compiled, 0);
        if (compiled == 0) {
            Method main = Class.forName("Examples").getDeclaredMethod("main", String[].class);
            main.setAccessible(true);
            main.invoke(null, (Object) new String[0]);
        }
    }
}
