import java.util.Random;

/** Random texts, most of them spoilt in some places: the fault and its place, held against Judge. */
public final class TextRunsTest {
    private static final int TEXTS = 40000;
    private static final String[] VALUES = {"times", "pots", "iron", "gone", "beside", "free", "day"};
    private static final String[] SIGNS = {"+", "-", "*", "/", "<", "=", " and ", " or "};
    private static final String[] ANY = {"balcony", "wall", "ship", "times", "goes", "not", " not ", "and", "or", "pots", "x",
        ";", "(", ")", "+", "-", "*", "/", "<", "=", "0", "1", "9", "10", "21", "100", "9999", "10000", "#", "A", "\t", "\0",
        "\u00ff", " not not not not not ", "((((", "))))", " ", "\n", "times 3;", "ship 1 1 1;", "goes 1;"};
    private static final int KINDS = 6;

    private final Check check = new Check();
    private final Random random = new Random(20261118);
    private final int[] found = new int[KINDS];

    public static void main(String[] args) {
        new TextRunsTest().go();
    }

    private void go() {
        for (int i = 0; i < TEXTS; i++) {
            StringBuilder text = text();
            for (int spoilt = random.nextInt(4); spoilt > 0; spoilt--) {
                spoil(text);
            }
            text.setLength(Math.min(700, text.length()));
            judge(text.toString());
        }
        for (int kind : new int[] {0, 1, 2, 3, 5}) {
            check.due("texts of fault " + kind + ": " + found[kind], true, () -> found[kind] >= 100);
        }
        check.end("TextRunsTest");
    }

    private void judge(String text) {
        String due = Judge.of(text);
        found[due.charAt(0) - '0']++;
        BalconyPort x = new BalconyPort();
        check.due("the fault of " + text, due, () -> Check.port(x, text) + " at " + x.fault());
    }

    private int upTo(int most) {
        return random.nextInt(most + 1);
    }

    private String oneOf(String[] words) {
        return words[random.nextInt(words.length)];
    }

    private StringBuilder text() {
        StringBuilder text = new StringBuilder();
        for (int i = upTo(upTo(3) == 0 ? 11 : 2); i > 0; i--) {
            text.append("balcony " + (1 + upTo(19)) + " " + (1 + upTo(8)) + " " + upTo(9) + " " + upTo(3) + ";");
        }
        for (int i = upTo(upTo(3) == 0 ? 11 : 2); i > 0; i--) {
            text.append("wall " + (1 + upTo(8)) + "\n" + upTo(20) + ";");
        }
        if (upTo(2) == 0) {
            text.append("ship " + (1 + upTo(98)) + " " + (1 + upTo(8)) + " " + (1 + upTo(8)) + " ;");
        }
        if (upTo(2) == 0) {
            text.append("times" + " 5".repeat(1 + upTo(10)) + ";");
        }
        if (upTo(4) != 0) {
            text.append("goes " + expr(upTo(6)) + ";");
        }
        return text;
    }

    private String expr(int depth) {
        switch (depth <= 0 ? upTo(1) : upTo(8)) {
            case 0: return String.valueOf(upTo(1) == 0 ? upTo(9) : upTo(9999));
            case 1: return oneOf(VALUES);
            case 2: return "not ".repeat(1 + upTo(5)) + expr(depth - 1);
            case 3: case 4: return "(" + expr(depth - 1) + ")";
            default: return expr(depth - 1) + oneOf(SIGNS) + (upTo(1) == 0 ? expr(depth - 1) : "(" + expr(depth - 1) + ")");
        }
    }

    private void spoil(StringBuilder text) {
        int at = upTo(text.length());
        switch (upTo(5)) {
            case 0: text.delete(at, Math.min(text.length(), at + upTo(5))); break;
            case 1: text.setLength(at); break;
            case 2: text.insert(at, " " + oneOf(ANY) + " "); break;
            case 3: text.append(oneOf(ANY)); break;
            default: text.insert(at, oneOf(ANY)); break;
        }
    }
}
