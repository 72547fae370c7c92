import java.io.IOException;
import java.net.URL;
import java.net.URLClassLoader;
import java.nio.file.Files;
import java.nio.file.Path;
import java.util.ArrayList;
import java.util.List;
import java.util.regex.Matcher;
import java.util.regex.Pattern;
import javax.tools.ToolProvider;

/** The code of README.md (the property "readme") is compiled and run: each call answers as said beside it. */
public final class ReadmeTest {
    private static final Pattern BLOCK = Pattern.compile("```java\n(.*?)```", Pattern.DOTALL);
    private static final Pattern CALL = Pattern.compile("(?m)^(x\\.\\w+\\(.*\\)); +// (-?\\d+|true|false):.*$");
    private static final Pattern NAMED = Pattern.compile("(?m)^\\| (`.*`) \\|");

    private ReadmeTest() {
    }

    public static void main(String[] args) throws Exception {
        String readme = Files.readString(Path.of(System.getProperty("readme", "README.md")));
        List<String> blocks = new ArrayList<>();
        for (Matcher block = BLOCK.matcher(readme); block.find(); ) {
            blocks.add(block.group(1));
        }
        Check.due("blocks of code", 2, blocks.size());
        if (blocks.size() == 2) {
            answersAreAsSaid(blocks.get(0), blocks.get(1));
        }
        allCallsAreNamed(readme);
        Check.end("ReadmeTest");
    }

    private static void answersAreAsSaid(String methods, String calls) throws Exception {
        List<String> said = new ArrayList<>();
        List<Object> want = new ArrayList<>();
        for (Matcher call = CALL.matcher(calls); call.find(); ) {
            said.add(call.group(1));
            boolean truth = !Character.isDigit(call.group(2).charAt(call.group(2).length() - 1));
            want.add(truth ? (call.group(2).equals("true") ? 1L : 0L) : Long.parseLong(call.group(2)));
        }
        Check.due("each call with its answer", calls.lines().filter(l -> l.startsWith("x.")).count(), said.size());
        List<?> got = answersOf("import java.util.*;\npublic final class ReadmeCode {\n" + methods
            + "public static List<Object> answers() {\nList<Object> answers = new ArrayList<>();\n"
            + CALL.matcher(calls).replaceAll("answers.add($1);") + "return answers;\n}\n}\n");
        Check.due("answers", want.size(), got.size());
        for (int k = 0; k < Math.min(want.size(), got.size()); k++) {
            Object answer = got.get(k);
            long number = answer instanceof Boolean b ? (b ? 1 : 0) : ((Number) answer).longValue();
            Check.due("README.md: " + said.get(k), (Long) want.get(k), number);
        }
    }

    private static List<?> answersOf(String source) throws Exception {
        Path place = Files.createTempDirectory("readme");
        Path file = place.resolve("ReadmeCode.java");
        try {
            Files.writeString(file, source);
            int code = ToolProvider.getSystemJavaCompiler().run(null, null, null, "-proc:none", "-cp",
                System.getProperty("java.class.path"), "-d", place.toString(), file.toString());
            Check.due("README.md's code compiles", 0, code);
            if (code != 0) {
                return List.of();
            }
            try (URLClassLoader loader = new URLClassLoader(new URL[] {place.toUri().toURL()})) {
                return (List<?>) loader.loadClass("ReadmeCode").getMethod("answers").invoke(null);
            }
        } finally {
            remove(place);
        }
    }

    private static void remove(Path place) throws IOException {
        for (String name : new String[] {"ReadmeCode.java", "ReadmeCode.class"}) {
            Files.deleteIfExists(place.resolve(name));
        }
        Files.delete(place);
    }

    /** The table has each public call once. */
    private static void allCallsAreNamed(String readme) {
        List<String> named = new ArrayList<>();
        for (Matcher row = NAMED.matcher(readme); row.find(); ) {
            named.addAll(List.of(row.group(1).replace("`", "").split(" ")));
        }
        for (var method : LockOrchestra.class.getDeclaredMethods()) {
            if (java.lang.reflect.Modifier.isPublic(method.getModifiers())) {
                Check.due("README.md names " + method.getName(), true, named.remove(method.getName()));
            }
        }
        Check.due("README.md names too many calls: " + named, 0, named.size());
    }
}
