import java.io.IOException;
import java.lang.reflect.Method;
import java.lang.reflect.Modifier;
import java.net.URL;
import java.net.URLClassLoader;
import java.nio.file.Files;
import java.nio.file.Path;
import java.util.ArrayList;
import java.util.Comparator;
import java.util.List;
import java.util.regex.Matcher;
import java.util.regex.Pattern;
import java.util.stream.Stream;
import javax.tools.ToolProvider;

/** README.md as it now stands: its program gives the answers that it tells, and it names all calls and all tests. */
public final class ReadmeTest {
    private static final Check CHECK = new Check();
    private static final Pattern PROGRAM = Pattern.compile("(?s)```java\n(.*?)```");
    private static final Pattern ANSWER = Pattern.compile("(?m)^ *(\\w.*\\)); *// (-?\\d+|true|false)\\b.*$");

    /** What the program of README.md answered, as the program itself writes it here. */
    public static final List<String> ANSWERS = new ArrayList<>();

    public static void main(String[] args) throws IOException, ReflectiveOperationException {
        String page = Files.readString(Path.of("README.md"));
        runProgram(page);
        namesCalls(page);
        namesTests(page);
        CHECK.end("ReadmeTest");
    }

    private static void runProgram(String page) throws IOException, ReflectiveOperationException {
        Matcher program = PROGRAM.matcher(page);
        CHECK.due("there is a program", true, program::find);
        String text = program.group(1);
        List<String> calls = new ArrayList<>();
        List<String> told = new ArrayList<>();
        Matcher answers = ANSWER.matcher(text);
        while (answers.find()) {
            calls.add(answers.group(1));
            told.add(answers.group(2));
        }
        CHECK.due("calls with an answer told", true, () -> calls.size() >= 15);
        run(answers.replaceAll("ReadmeTest.ANSWERS.add(String.valueOf($1));"));
        CHECK.due("answers that came", told.size(), ANSWERS::size);
        for (int i = 0; i < Math.min(told.size(), ANSWERS.size()); i++) {
            String came = ANSWERS.get(i);
            CHECK.due(calls.get(i), told.get(i), () -> came);
        }
    }

    private static void run(String program) throws IOException, ReflectiveOperationException {
        Path place = Files.createTempDirectory("readme");
        try {
            Path source = Files.writeString(place.resolve("Emigrants.java"), program);
            int code = ToolProvider.getSystemJavaCompiler().run(null, null, null, "-proc:none", "-cp",
                System.getProperty("java.class.path"), "-d", place.toString(), source.toString());
            CHECK.due("the program compiles", 0, () -> code);
            if (code == 0) {
                try (URLClassLoader loader = new URLClassLoader(new URL[] {place.toUri().toURL()})) {
                    loader.loadClass("Emigrants").getMethod("main", String[].class).invoke(null, (Object) new String[0]);
                }
            }
        } finally {
            remove(place);
        }
    }

    private static void remove(Path place) throws IOException {
        try (Stream<Path> all = Files.walk(place)) {
            for (Path path : all.sorted(Comparator.reverseOrder()).toList()) {
                Files.delete(path);
            }
        }
    }

    private static void namesCalls(String page) {
        for (Method method : BalconyPort.class.getDeclaredMethods()) {
            if (Modifier.isPublic(method.getModifiers())) {
                String name = method.getName();
                CHECK.due("names " + name, true, () -> Pattern.compile("`" + name + "[`(]").matcher(page).find());
            }
        }
    }

    private static void namesTests(String page) throws IOException {
        try (Stream<Path> all = Files.list(Path.of("src/test/java"))) {
            for (Path path : all.toList()) {
                String name = path.getFileName().toString().replace(".java", "");
                if (name.endsWith("Test")) {
                    CHECK.due("names " + name, true, () -> page.contains("| `" + name + "` |"));
                }
            }
        }
    }
}
