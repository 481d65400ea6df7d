import java.io.IOException;
import java.lang.reflect.Constructor;
import java.lang.reflect.Field;
import java.lang.reflect.Method;
import java.lang.reflect.Modifier;
import java.nio.file.Files;
import java.nio.file.Path;
import java.util.Arrays;
import java.util.List;
import java.util.Set;
import java.util.TreeSet;
import java.util.regex.Matcher;
import java.util.regex.Pattern;

/** The document's public face, and those of LANGUAGE.md's rules that can be seen from outside. */
public final class FaceTest {
    private static final Check CHECK = new Check();
    private static final Path SOURCE = Path.of("src/main/java/BalconyPort.java");

    private static final String FACE = """
        int feed(int int int int int)
        int port(int) IllegalArgumentException
        int fault()
        int count(int) NoSuchElementException
        int balcony(int int) NoSuchElementException
        int wall(int int) NoSuchElementException
        int street(int int) NoSuchElementException
        int days(int)
        int pots(int int) NoSuchElementException
        int rent(int int) NoSuchElementException
        boolean back(int) NoSuchElementException
        boolean sweep(int) NoSuchElementException
        int widen(int int) NoSuchElementException
        int undo()
        int where(int int int) NoSuchElementException IllegalArgumentException
        int sails(int) NoSuchElementException
        int hangs(int) NoSuchElementException
        int earned(int int) NoSuchElementException IllegalArgumentException
        int empty(int) NoSuchElementException
        int follows(int) NoSuchElementException
        int beside(int) NoSuchElementException
        int parted()
        int richest(int) IllegalArgumentException
        int waiting(int) IllegalArgumentException
        int vacant(int) IllegalArgumentException
        int fullest(int) NoSuchElementException
        int mostPots(int) NoSuchElementException
        int ships()
        int cargo(int) NoSuchElementException
        int best(int) NoSuchElementException
        int widening()
        int see(int int)
        int wrong(int) NoSuchElementException
        int look(int) NoSuchElementException
        void forget()
        int game(int int int int) NoSuchElementException IllegalArgumentException
        int storms(int int int) NoSuchElementException IllegalArgumentException
        void image()
        boolean restore()
        """;

    public static void main(String[] args) throws IOException {
        face();
        source();
        CHECK.end("FaceTest");
    }

    private static String told(Method method) {
        StringBuilder told = new StringBuilder(method.getReturnType().getSimpleName() + " " + method.getName() + "(");
        for (Class<?> type : method.getParameterTypes()) {
            told.append(told.charAt(told.length() - 1) == '(' ? "" : " ").append(type.getSimpleName());
        }
        told.append(")");
        for (Class<?> type : method.getExceptionTypes()) {
            told.append(" ").append(type.getSimpleName());
        }
        return told.toString();
    }

    private static void face() {
        Class<?> face = BalconyPort.class;
        CHECK.due("public and final", Modifier.PUBLIC | Modifier.FINAL, face::getModifiers);
        Set<String> methods = new TreeSet<>();
        Set<String> names = new TreeSet<>();
        for (Method method : face.getDeclaredMethods()) {
            if (!Modifier.isPrivate(method.getModifiers())) {
                methods.add((Modifier.isPublic(method.getModifiers()) ? "" : "not public: ") + told(method));
                names.add(method.getName());
            }
        }
        CHECK.due("methods", new TreeSet<>(Arrays.asList(FACE.split("\n"))), () -> methods);
        for (Field field : face.getDeclaredFields()) {
            int want = field.getName().equals("NONE") ? Modifier.PUBLIC | Modifier.STATIC | Modifier.FINAL : Modifier.PRIVATE;
            CHECK.due("field " + field.getName(), want, () -> want == Modifier.PRIVATE ? field.getModifiers() & 7 : field.getModifiers());
        }
        Constructor<?>[] constructors = face.getDeclaredConstructors();
        CHECK.due("constructors", "[public BalconyPort()]", () -> Arrays.toString(constructors));
        for (Class<?> inside : face.getDeclaredClasses()) {
            CHECK.due("static: " + inside, true, () -> Modifier.isStatic(inside.getModifiers()));
            for (Method method : inside.getDeclaredMethods()) {
                CHECK.due("a face's name: " + method, false, () -> names.contains(method.getName()));
            }
            for (Field field : inside.getDeclaredFields()) {
                int modifiers = field.getModifiers();
                CHECK.due("static but not final: " + field, false, () -> Modifier.isStatic(modifiers) && !Modifier.isFinal(modifiers));
            }
            CHECK.due("fields of " + inside, true, () -> Arrays.stream(inside.getDeclaredFields()).filter(f -> !Modifier.isStatic(f.getModifiers())).count() <= 20);
        }
        CHECK.due("classes", true, () -> face.getDeclaredClasses().length < 12);
    }

    private static void source() throws IOException {
        List<String> lines = Files.readAllLines(SOURCE);
        String text = String.join("\n", lines).replaceAll("(?s)/\\*.*?\\*/|//[^\n]*", "");
        for (String word : List.of("->", "::", "\\btry\\b", "\\bcatch\\b", "\\bfinally\\b", "\\bsynchronized\\b", "\\bassert\\b",
            "static \\{", "Exact\\(", "\\bpackage\\b", "\" *\\+", "\\+ *\"", "\\bprotected\\b", "[^\\x00-\\x7f]", "\\bSystem\\.(?!arraycopy)")) {
            CHECK.due("in the source: " + word, false, () -> Pattern.compile(word).matcher(text).find());
        }
        Matcher imports = Pattern.compile("import ([^;]*);").matcher(text);
        Set<String> allowed = Set.of("java.util.Arrays", "java.util.NoSuchElementException");
        while (imports.find()) {
            String name = imports.group(1);
            CHECK.due("import " + name, true, () -> allowed.contains(name));
        }
        methodLengths(lines);
    }

    /** A method begins with a line that ends in ") {" or throws, and ends with a brace of the same indent. */
    private static void methodLengths(List<String> lines) {
        for (int i = 0; i < lines.size(); i++) {
            Matcher head = Pattern.compile("( {4}| {8})(private |public |static |final )*\\w+(\\[\\])? \\w+\\([^;]*\\{").matcher(lines.get(i));
            if (!head.matches()) {
                continue;
            }
            int end = i;
            while (!lines.get(end).equals(head.group(1) + "}")) {
                end++;
            }
            int length = end - i + 1;
            CHECK.due("length of " + lines.get(i).trim(), true, () -> length <= 60);
            int parameters = lines.get(i).replaceAll("[^,]", "").length() + 1;
            CHECK.due("parameters of " + lines.get(i).trim(), true, () -> parameters <= 7);
        }
    }
}
