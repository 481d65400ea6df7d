import java.util.ArrayDeque;
import java.util.Deque;
import java.util.HashMap;
import java.util.List;
import java.util.Map;
import java.util.Set;
import java.util.regex.Matcher;
import java.util.regex.Pattern;

/** Judges a text without the grammar's levels: by what may stand next, token by token. Finds the fault and its place. */
final class Judge {
    private static final Pattern TOKEN = Pattern.compile("(?s)[a-z]+|[0-9]+|[^ \n]");
    private static final Set<String> VALUES = Set.of("times", "pots", "iron", "gone", "beside", "free", "day");
    private static final Map<String, int[]> LIMITS = Map.of("balcony", new int[] {1, 20, 1, 9, 0, 9, 0, 3},
        "wall", new int[] {1, 9, 0, 20}, "ship", new int[] {1, 99, 1, 9, 1, 9}, "times", new int[0], "goes", new int[0]);

    private enum State { LINE, NUMBERS, TIMES, PART, BEHIND_PART }

    private final Map<String, Integer> lines = new HashMap<>();
    private State state = State.LINE;
    private int[] limits = {};
    private int numbers;
    private int nots;
    private boolean notMayStand;
    private boolean isFirst;
    private boolean hasTest;
    // of each EXPR around this one, whether it had a test already
    private final Deque<Boolean> around = new ArrayDeque<>();

    private Judge() {
    }

    /** The fault and its place, as "2 at 17"; "0 at -1" without one. */
    static String of(String text) {
        Judge judge = new Judge();
        Matcher token = TOKEN.matcher(text);
        while (token.find()) {
            int fault = judge.take(token.group());
            if (fault != 0) {
                return fault + " at " + token.start();
            }
        }
        return judge.state == State.LINE ? "0 at -1" : "1 at " + text.length();
    }

    private int take(String token) {
        return switch (state) {
            case LINE -> takeWord(token);
            case NUMBERS -> takeNumber(token);
            case TIMES -> takeTimes(token);
            case PART -> takePart(token);
            case BEHIND_PART -> takeBehindPart(token);
        };
    }

    private static boolean isNumber(String token) {
        return token.charAt(0) >= '0' && token.charAt(0) <= '9';
    }

    private static boolean isWord(String token) {
        return token.charAt(0) >= 'a' && token.charAt(0) <= 'z';
    }

    private static boolean isWithin(String number, int least, int most) {
        return number.length() <= 4 && Integer.parseInt(number) >= least && Integer.parseInt(number) <= most;
    }

    private int takeWord(String word) {
        if (!LIMITS.containsKey(word)) {
            return 1;
        }
        int many = lines.merge(word, 1, Integer::sum);
        boolean isOfMany = word.equals("balcony") || word.equals("wall");
        if (many > (isOfMany ? 10 : 1)) {
            return isOfMany ? 2 : 5;
        }
        limits = LIMITS.get(word);
        numbers = 0;
        state = word.equals("goes") ? State.PART : word.equals("times") ? State.TIMES : State.NUMBERS;
        beginExpr();
        return 0;
    }

    private void beginExpr() {
        hasTest = false;
        isFirst = true;
        beginNot();
    }

    private void beginNot() {
        notMayStand = true;
        nots = 0;
    }

    private int endLine(String token) {
        state = State.LINE;
        return token.equals(";") ? 0 : 1;
    }

    private int takeNumber(String token) {
        if (2 * numbers == limits.length) {
            return endLine(token);
        }
        numbers++;
        return !isNumber(token) ? 1 : isWithin(token, limits[2 * numbers - 2], limits[2 * numbers - 1]) ? 0 : 2;
    }

    private int takeTimes(String token) {
        if (!isNumber(token)) {
            return numbers == 0 ? 1 : endLine(token);
        }
        numbers++;
        return numbers <= 10 && isWithin(token, 0, 9) ? 0 : 2;
    }

    private int takePart(String token) {
        boolean canBegin = isNumber(token) || isWord(token) || token.equals("(");
        if (!canBegin) {
            return 1;
        }
        if (isFirst && around.size() == 6) {
            return 2;
        }
        isFirst = false;
        if (token.equals("not") && notMayStand) {
            nots++;
            return nots == 7 ? 2 : 0;
        }
        if (token.equals("(")) {
            around.push(hasTest);
            beginExpr();
            return 0;
        }
        state = State.BEHIND_PART;
        if (isNumber(token)) {
            return isWithin(token, 0, 9999) ? 0 : 2;
        }
        return VALUES.contains(token) ? 0 : 3;
    }

    private int takeBehindPart(String token) {
        if (token.equals(")") && !around.isEmpty()) {
            hasTest = around.pop();
            return 0;
        }
        if (token.equals(";") && around.isEmpty()) {
            return endLine(token);
        }
        state = State.PART;
        if (token.equals("and") || token.equals("or")) {
            hasTest = false;
            beginNot();
            return 0;
        }
        notMayStand = false;
        boolean isTest = token.equals("<") || token.equals("=");
        boolean fits = isTest ? !hasTest : List.of("+", "-", "*", "/").contains(token);
        hasTest |= isTest;
        return fits ? 0 : 1;
    }
}
