import java.lang.reflect.Constructor;
import java.lang.reflect.Field;
import java.lang.reflect.Method;
import java.lang.reflect.Modifier;
import java.nio.file.Files;
import java.nio.file.Path;
import java.util.Set;
import java.util.StringJoiner;
import java.util.TreeSet;
import java.util.regex.Matcher;
import java.util.regex.Pattern;

/** The public face, and what can be seen of LANGUAGE.md's rules in the source; promise 1. */
public final class FaceTest {
    /** All of the library that the class uses; rule 4 names each of them. */
    private static final Set<String> LIBRARY = Set.of("Arrays.copyOf", "Arrays.fill", "Integer.bitCount", "Math.max", "Math.min",
            "System.arraycopy");
    private static final String FACE = "enter 2 at 2 told 3 off 2 clerk 1 of 2 asks 3 terms 2 feed 5 end 1 row 0 "
            + "smudges 0 law 0 orders 0 fault 0 stopped 0 force 1 take 2 shift 3 fence 1 pass 0 undo 0 fewest 0 "
            + "turned 1 hound 2 ring 2 sources 1 casts 1 seen 3 fits 0 next 2 booked 3 through 3 settled 0 forget 0 "
            + "few 2 weeks 2 drawn 2 image 1 back 1 count 1 status 0";

    private FaceTest() {
    }

    public static void main(String[] args) throws Exception {
        constants();
        members();
        faceOfTheDocument();
        emptyLedger();
        source();
        Due.end("FaceTest");
    }

    private static void constants() {
        Due.is("NONE", LedgerHounds.NONE, -1);
        Due.is("NOTHING", LedgerHounds.NOTHING, -100000);
        Due.is("OUT", LedgerHounds.OUT, 25);
    }

    private static void members() {
        Class<?> c = LedgerHounds.class;
        Due.holds("public and final", Modifier.isPublic(c.getModifiers()) && Modifier.isFinal(c.getModifiers()));
        Set<String> want = new TreeSet<>();
        String[] words = FACE.split(" ");
        for (int i = 0; i < words.length; i += 2) {
            want.add(words[i] + " " + words[i + 1]);
        }
        Set<String> got = new TreeSet<>();
        for (Method m : c.getDeclaredMethods()) {
            if (m.isSynthetic()) {
                continue;
            }
            if (Modifier.isPublic(m.getModifiers())) {
                got.add(m.getName() + " " + m.getParameterCount());
                Due.holds(m.getName() + " answers a number",
                        m.getReturnType() == (m.getName().equals("few") ? long.class : int.class));
            } else {
                Due.holds(m + " is private", Modifier.isPrivate(m.getModifiers()));
                Due.holds(m + " has no public one's name", !(" " + FACE).contains(" " + m.getName() + " "));
            }
        }
        Due.holds("the methods are " + got, got.equals(want));
        for (Field f : c.getDeclaredFields()) {
            boolean named = Set.of("NONE", "NOTHING", "OUT").contains(f.getName());
            Due.holds(f + " is private or a constant of the face", named || Modifier.isPrivate(f.getModifiers()));
        }
        for (Class<?> inside : c.getDeclaredClasses()) {
            Due.holds(inside + " is static", Modifier.isStatic(inside.getModifiers()) && !Modifier.isPublic(inside.getModifiers()));
            for (Method m : inside.getDeclaredMethods()) {
                Due.holds(m + " has no public one's name", !(" " + FACE).contains(" " + m.getName() + " "));
            }
        }
        Due.is("constructors", c.getConstructors().length, 1);
        for (Constructor<?> k : c.getDeclaredConstructors()) {
            Due.is("parameters of the constructor", k.getParameterCount(), 0);
        }
    }

    /** The lines of the document's face are what is public in the class, no more and no less. */
    private static void faceOfTheDocument() throws Exception {
        String doc = Files.readString(Path.of("../shared/DOC.md"));
        String face = doc.substring(doc.indexOf("public final class LedgerHounds {"));
        face = face.substring(0, face.indexOf("```"));
        Set<String> want = new TreeSet<>();
        for (String line : face.split("\n")) {
            if (line.startsWith("    public ")) {
                // A parameter's type matters here, its name does not.
                want.add(line.trim().replaceAll("\\bint \\w+(?=[,)])", "int").replaceAll(" = .*", "").replace(";", ""));
            }
        }
        Class<?> c = LedgerHounds.class;
        Set<String> got = new TreeSet<>();
        for (Field f : c.getFields()) {
            got.add(Modifier.toString(f.getModifiers()) + " " + f.getType() + " " + f.getName());
        }
        for (Constructor<?> k : c.getConstructors()) {
            got.add(Modifier.toString(k.getModifiers()) + " LedgerHounds" + typesOf(k.getParameterTypes()));
        }
        for (Method m : c.getDeclaredMethods()) {
            if (Modifier.isPublic(m.getModifiers())) {
                got.add(Modifier.toString(m.getModifiers()) + " " + m.getReturnType() + " " + m.getName() + typesOf(m.getParameterTypes()));
            }
        }
        Due.is("lines of the document's face", want.size(), 46);
        Due.holds("the face is " + got + ", due is " + want, got.equals(want));
        Due.holds("the class stands on Object alone", c.getSuperclass() == Object.class && c.getInterfaces().length == 0);
        Due.is("public classes inside", c.getClasses().length, 0);
    }

    private static String typesOf(Class<?>[] types) {
        StringJoiner row = new StringJoiner(", ", "(", ")");
        for (Class<?> type : types) {
            row.add(type.getName());
        }
        return row.toString();
    }

    /** Promise 1. */
    private static void emptyLedger() {
        LedgerHounds x = new LedgerHounds();
        for (int c = 0; c < 25; c++) {
            Due.is("entry of " + c, x.at(c, 0), 0);
            Due.is("fence of " + c, x.at(c, 1), 0);
            Due.is("led at " + c, x.at(c, 2), 2);
            Due.is("bites at " + c, x.at(c, 3), 0);
        }
        for (int i = 0; i < 10; i++) {
            Due.is("off " + i, x.off(i / 5, i % 5), 0);
            Due.is("told " + i, x.told(i / 5, i % 5, 0), 0);
        }
        int[] counts = {0, 0, 0, 0, 0, 0, 0, 0, 0, 0, 0, 0, -1, 0, 1, 0};
        for (int i = 0; i < counts.length; i++) {
            Due.is("count(" + i + ") of a new object", x.count(i), counts[i]);
        }
        Due.is("status of a new object", x.status(), 0);
        Due.is("fault of a new object", x.fault(), -1);
        Due.is("stopped of a new object", x.stopped(), -1);
        Due.is("smudges of a new object", x.smudges(), 0);
        Due.is("drawn of a new object", x.drawn(0, 0), -1);
        Due.is("of(0, 0) of a new object", x.of(0, 0), -1);
        Due.is("back(0) of a new object", x.back(0), -2);
        Due.is("undo of a new object", x.undo(), -3);
        LedgerHounds other = new LedgerHounds();
        x.enter(3, 7);
        Due.is("another object's entry", other.at(3, 0), 0);
    }

    private static void source() throws Exception {
        String text = Files.readString(Path.of("src/main/java/LedgerHounds.java"));
        String code = text.replaceAll("(?s)/\\*.*?\\*/", "").replaceAll("//[^\n]*", "").replaceAll("\"[^\"]*\"", "\"\"");
        String[] banned = {"throw", "throws", "try", "catch", "finally", "synchronized", "assert", "volatile", "native", "strictfp",
            "package", "System\\.(?!arraycopy)", "Thread", "Random", "Object", "->", "::", "Exact\\(", "hashCode", "toString",
            "equals", "while \\(true\\)", "for \\(;;\\)", "String\\[", "@", "double", "float", "protected"};
        for (String word : banned) {
            String pattern = Character.isLetter(word.charAt(0)) ? "\\b" + word : word;
            Due.holds("no " + word + " in the source", !Pattern.compile(pattern + "(?![a-z])").matcher(code).find());
        }
        for (String line : code.split("\n")) {
            if (line.startsWith("import")) {
                Due.holds(line, line.equals("import java.util.Arrays;"));
            }
            if (line.contains("static") && line.contains("=") && !line.contains("final")) {
                Due.holds("static state: " + line, false);
            }
        }
        Matcher used = Pattern.compile("\\b(?:Integer|Long|Math|Arrays|System|Character|Boolean|String|List)\\.\\w+").matcher(code);
        while (used.find()) {
            Due.holds(used.group() + " is of the library of rule 4", LIBRARY.contains(used.group()));
        }
        // The class, three constants, the constructor, 42 methods; nothing inside the classes inside.
        Due.is("how often the source says public", code.split("\\bpublic\\b", -1).length - 1, 47);
        longMethods(text);
    }

    private static void longMethods(String text) {
        String[] lines = text.split("\n");
        int from = 0;
        for (int i = 0; i < lines.length; i++) {
            if (lines[i].matches("(    |        )[a-zA-Z].*\\) \\{")) {
                from = i;
            }
            if (lines[i].matches("(    |        )\\}")) {
                Due.holds("a method of " + (i - from) + " lines before line " + i, i - from <= 60 || lines[from].contains("class"));
                from = i;
            }
        }
    }
}
