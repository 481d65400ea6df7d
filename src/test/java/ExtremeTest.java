import java.lang.reflect.InvocationTargetException;
import java.lang.reflect.Method;
import java.util.Arrays;
import java.util.Comparator;
import java.util.List;
import java.util.Random;

/** Any arguments in any state: a call throws only what its head tells, and texts of any bytes are read to an end. */
public final class ExtremeTest {
    private static final Check CHECK = new Check();
    private static final int[] EDGES = {Integer.MIN_VALUE, Integer.MIN_VALUE + 1, -1000, -2, -1, 0, 1, 2, 3, 7, 8, 9, 10, 11, 20, 21,
        30, 31, 60, 61, 99, 100, 700, 999, 1000, 65536, Integer.MAX_VALUE - 1, Integer.MAX_VALUE};

    public static void main(String[] args) throws IllegalAccessException {
        Method[] methods = BalconyPort.class.getDeclaredMethods();
        List<Method> face = Arrays.stream(methods).filter(m -> (m.getModifiers() & 1) != 0)
            .sorted(Comparator.comparing(Method::getName)).toList();
        CHECK.due("methods", 39, face::size);
        for (int run = 0; run < 300; run++) {
            run(new Random(run), run, face);
        }
        texts();
        CHECK.end("ExtremeTest");
    }

    private static void run(Random random, int run, List<Method> face) throws IllegalAccessException {
        BalconyPort x = run % 5 == 0 ? new BalconyPort() : Check.of("balcony 9 3 4 0;balcony 2 5 5 1;".repeat(1 + run % 5)
            + "wall 3 7;wall 9 2;".repeat(run % 6) + "ship 20 2 3;times 1 2 3;goes gone+beside+free+pots*iron/7 < 9*times;");
        for (int call = 0; call < 512; call++) {
            Method method = face.get(random.nextInt(face.size()));
            Object[] values = new Object[method.getParameterCount()];
            for (int i = 0; i < values.length; i++) {
                values[i] = random.nextInt(9) == 0 ? random.nextInt() : EDGES[random.nextInt(EDGES.length)];
            }
            String thrown = thrownBy(x, method, values);
            List<String> told = Arrays.stream(method.getExceptionTypes()).map(Class::getSimpleName).toList();
            CHECK.due("run " + run + ": " + method.getName() + Arrays.toString(values) + " throws " + thrown, true,
                () -> thrown.isEmpty() || told.contains(thrown));
        }
    }

    private static String thrownBy(BalconyPort x, Method method, Object[] values) throws IllegalAccessException {
        try {
            method.invoke(x, values);
            return "";
        } catch (InvocationTargetException e) {
            return e.getCause().getClass().getSimpleName();
        }
    }

    private static void texts() {
        Random random = new Random(7);
        for (int i = 0; i < 2000; i++) {
            StringBuilder text = new StringBuilder(i % 2 == 0 ? "goes " : "");
            int length = random.nextInt(696);
            String signs = i % 3 == 0 ? "((((1+not ao;" : "balconywtimesg 0123456789;()+-*/<=\n";
            for (int k = 0; k < length && text.length() < 700; k++) {
                text.append(i % 7 == 0 ? (char) random.nextInt(256) : signs.charAt(random.nextInt(signs.length())));
            }
            BalconyPort x = new BalconyPort();
            Model model = new Model();
            byte[] bytes = Check.bytes(text.toString());
            Check.feed(x, text.toString());
            for (int at = 0; at < bytes.length; at += 20) {
                int[] five = new int[5];
                for (int k = 0; k < 20; k++) {
                    five[k / 4] = five[k / 4] << 8 | (at + k < bytes.length ? bytes[at + k] & 255 : 32);
                }
                model.feed(five);
            }
            CHECK.due("port of " + text, model.port(bytes.length), () -> x.port(bytes.length));
            CHECK.due("fault of " + text, model.fault(), x::fault);
        }
    }
}
