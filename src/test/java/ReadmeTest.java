import java.net.URL;
import java.net.URLClassLoader;
import java.nio.file.Files;
import java.nio.file.Path;
import java.util.Map;
import java.util.Set;
import java.util.TreeMap;
import java.util.TreeSet;
import java.util.regex.Matcher;
import java.util.regex.Pattern;
import java.util.stream.Stream;
import javax.tools.ToolProvider;

/** README.md: its program answers what it says there, its table names every call of the face and what it is REFUSED by. */
public final class ReadmeTest {
    private static final Pattern ANSWERED = Pattern.compile("(?m)^ *(x\\.\\w+\\([^;]*\\)); *// (-?\\d+)(?::.*)?$");

    private ReadmeTest() {
    }

    public static void main(String[] args) throws Exception {
        String readme = Files.readString(Path.of("README.md"));
        program(readme);
        table(readme, Files.readString(Path.of("../shared/DOC.md")));
        tests(readme);
        Due.end("ReadmeTest");
    }

    /** The program is compiled with each answer told to a row that stands in for its comment. */
    private static void program(String readme) throws Exception {
        Matcher block = Pattern.compile("(?s)```java\\n(.*?)```").matcher(readme);
        Due.holds("README.md has a program", block.find());
        Matcher line = ANSWERED.matcher(block.group(1));
        StringBuilder due = new StringBuilder();
        int lines = 0;
        while (line.find()) {
            lines++;
            due.append(line.group(1)).append(' ').append(line.group(2)).append('\n');
        }
        Due.holds("its lines with an answer: " + lines, lines > 30);
        Due.is("all lines with a comment behind a call", lines, block.group(1).split("; *// ", -1).length - 1);
        String source = ANSWERED.matcher(block.group(1)).replaceAll("        GOT.append(\"$1 \").append($1).append('\\\\n');")
                .replaceFirst("\\{", "{\n    public static final StringBuilder GOT = new StringBuilder();\n");
        Path place = Files.createTempDirectory("readme");
        Path file = Files.writeString(place.resolve("Example.java"), source);
        int compiled = ToolProvider.getSystemJavaCompiler().run(null, null, null, "-cp", System.getProperty("java.class.path"), "-d",
                place.toString(), file.toString());
        Due.is("the program compiled", compiled, 0);
        if (compiled == 0) {
            try (URLClassLoader loader = new URLClassLoader(new URL[] {place.toUri().toURL()})) {
                Class<?> example = loader.loadClass("Example");
                example.getMethod("main", String[].class).invoke(null, (Object) new String[0]);
                compare(example.getField("GOT").get(null).toString().split("\n"), due.toString().split("\n"));
            }
        }
        try (Stream<Path> files = Files.list(place)) {
            files.forEach(f -> f.toFile().delete());
        }
        Files.delete(place);
    }

    private static void compare(String[] got, String[] due) {
        Due.is("answers", got.length, due.length);
        for (int i = 0; i < Math.min(got.length, due.length); i++) {
            Due.holds("got " + got[i] + ", README.md says " + due[i], got[i].equals(due[i]));
        }
    }

    /** The first column holds the document's face, the last one what each promise's own line names below 0. */
    private static void table(String readme, String doc) {
        Map<String, String> want = new TreeMap<>();
        Matcher promise = Pattern.compile("`(?:int|long) (\\w+)\\(([^)]*)\\)`: (.*)").matcher(doc);
        while (promise.find()) {
            String call = promise.group(1) + "(" + promise.group(2).replaceAll("int ", "") + ")";
            want.put(call, numbers(promise.group(3).replaceAll("REFUSED by.*", "")));
        }
        Map<String, String> got = new TreeMap<>();
        Matcher row = Pattern.compile("(?m)^\\| `(\\w+\\([^)]*\\))` \\| .* \\|([^|]*)\\|$").matcher(readme);
        while (row.find()) {
            got.put(row.group(1), numbers(row.group(2)));
        }
        Due.is("calls of the document", want.size(), 42);
        Due.holds("the table is " + got + ", due is " + want, got.equals(want));
    }

    private static String numbers(String text) {
        Set<String> found = new TreeSet<>();
        Matcher number = Pattern.compile("-\\d").matcher(text);
        while (number.find()) {
            found.add(number.group());
        }
        return found.toString();
    }

    /** Each test that .ci/run runs is told of, and none that is not there. */
    private static void tests(String readme) throws Exception {
        Set<String> there = new TreeSet<>();
        try (Stream<Path> files = Files.list(Path.of("src/test/java"))) {
            files.forEach(f -> there.add(f.getFileName().toString().replace(".java", "")));
        }
        Set<String> told = new TreeSet<>();
        Matcher name = Pattern.compile("`(\\w+Test)`").matcher(readme);
        while (name.find()) {
            told.add(name.group(1));
        }
        Due.holds("README.md tells of " + told + ", there are " + there, told.equals(there));
    }
}
