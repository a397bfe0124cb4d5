import java.io.IOException;
import java.lang.reflect.Constructor;
import java.lang.reflect.Field;
import java.lang.reflect.Method;
import java.lang.reflect.Modifier;
import java.nio.file.Files;
import java.nio.file.Path;
import java.util.ArrayList;
import java.util.Arrays;
import java.util.List;
import java.util.TreeSet;
import java.util.regex.Matcher;
import java.util.regex.Pattern;
import java.util.stream.Collectors;

/** The face is the document's, and the file keeps to what of ../shared/LANGUAGE.md a reader of text can look at. */
public final class FaceTest {
    private static final Path DOC = Path.of("../shared/DOC.md");
    private static final Path PROGRAM = Path.of("src/main/java/SnowNames.java");

    public static void main(String[] args) throws IOException {
        face();
        members();
        text();
        manyObjects();
        Due.end("FaceTest");
    }

    /** Each method as the document writes it, its arguments by their kinds. */
    private static void face() throws IOException {
        String doc = Files.readString(DOC);
        TreeSet<String> due = new TreeSet<>();
        Matcher m = Pattern.compile("    public (int|boolean|void) (\\w+)\\((.*?)\\)(?: throws (.*?))?;").matcher(doc);
        while (m.find()) {
            String kinds = m.group(3).replaceAll(" \\w+(, |$)", "$1");
            String thrown = m.group(4) == null ? "" : m.group(4);
            due.add(m.group(1) + " " + m.group(2) + "(" + kinds + ") " + thrown);
        }
        TreeSet<String> got = new TreeSet<>();
        for (Method f : SnowNames.class.getDeclaredMethods()) {
            if (Modifier.isPublic(f.getModifiers())) {
                got.add(f.getReturnType() + " " + f.getName() + "("
                        + Arrays.stream(f.getParameterTypes()).map(Class::getName).collect(Collectors.joining(", ")) + ") "
                        + Arrays.stream(f.getExceptionTypes()).map(Class::getSimpleName).collect(Collectors.joining(", ")));
            }
        }
        Due.is("the face", got, due);
        Due.is("calls", got.size(), 52);
    }

    private static void members() {
        Due.is("final", Modifier.isFinal(SnowNames.class.getModifiers()), true);
        Due.is("public", Modifier.isPublic(SnowNames.class.getModifiers()), true);
        TreeSet<String> names = new TreeSet<>();
        for (Method f : SnowNames.class.getDeclaredMethods()) {
            boolean open = Modifier.isPublic(f.getModifiers());
            Due.is("public or private: " + f, open || Modifier.isPrivate(f.getModifiers()), true);
            Due.is("a name of its own: " + f, names.add(f.getName()), true);
        }
        for (Field f : SnowNames.class.getDeclaredFields()) {
            Due.is("private but for NONE: " + f, Modifier.isPrivate(f.getModifiers()), !f.getName().equals("NONE"));
        }
        for (Constructor<?> c : SnowNames.class.getDeclaredConstructors()) {
            Due.is("one constructor", Modifier.isPublic(c.getModifiers()) && c.getParameterCount() == 0, true);
        }
        Class<?>[] within = SnowNames.class.getDeclaredClasses();
        Due.is("classes", within.length <= 12, true);
        for (Class<?> c : within) {
            Due.is("static: " + c, Modifier.isStatic(c.getModifiers()), true);
            for (Method f : c.getDeclaredMethods()) {
                Due.is("no name of the face: " + f, names.contains(f.getName())
                        && Arrays.stream(SnowNames.class.getDeclaredMethods()).anyMatch(
                                g -> g.getName().equals(f.getName()) && Modifier.isPublic(g.getModifiers())), false);
                Due.is("seven parameters: " + f, f.getParameterCount() <= 7, true);
            }
            long fields = Arrays.stream(c.getDeclaredFields()).filter(f -> !Modifier.isStatic(f.getModifiers())).count();
            Due.is("twenty fields: " + c, fields <= 20, true);
        }
    }

    private static void text() throws IOException {
        String program = Files.readString(PROGRAM);
        Due.is("signs 1 to 127", program.chars().allMatch(c -> c < 127), true);
        String code = program.replaceAll("(?s)/\\*.*?\\*/", "").replaceAll("//[^\n]*", "");
        String bare = code.replaceAll("\"[^\"\n]*\"", "\"\"");
        for (String word : new String[] {"->", "::", "try", "catch", "finally", "synchronized", "assert", "package",
            "hashCode", "toString", "getMessage", "System.out", "Thread", "volatile", "native", "lambda"}) {
            Due.is("no " + word, Pattern.compile("(?<!\\w)" + Pattern.quote(word) + "(?!\\w)").matcher(bare).find(), false);
        }
        Due.is("no joining by +", Pattern.compile("\"\" *\\+|\\+ *\"\"").matcher(bare).find(), false);
        for (String line : code.split("\n")) {
            if (line.contains("import ")) {
                Due.is(line, line.matches("import java\\.util\\.(Arrays|NoSuchElementException);"), true);
            }
        }
        for (int length : methodLengths(code)) {
            Due.is("sixty lines", length <= 60, true);
        }
    }

    private static List<Integer> methodLengths(String code) {
        List<Integer> all = new ArrayList<>();
        String[] lines = code.split("\n");
        for (int i = 0; i < lines.length; i++) {
            Matcher m = Pattern.compile("^( +)[^=;]*\\).*\\{$").matcher(lines[i]);
            if (m.matches() && m.group(1).length() <= 8) {
                int j = i;
                while (j < lines.length && !lines[j].equals(m.group(1) + "}")) {
                    j++;
                }
                all.add(j - i + 1);
            }
        }
        return all;
    }

    /** Objects have nothing in common: what one does another one does not see. */
    private static void manyObjects() {
        SnowNames x = Due.of("field slope 0 room 9 snow 9;name a on 0", "deep 1");
        SnowNames y = new SnowNames();
        Due.is("fields of another one", y.count(0), 0);
        Due.is("law of another one", y.count(4), -1);
        y.seed(5);
        Due.is("seed of another one", x.seed(1), 1);
    }
}
