/** The boundary cases that "Terms" names: how much a text may tell, its tokens, its faults, and what a rule comes to. */
public final class TextLimitsTest {
    private static final Check CHECK = new Check();
    private static final String NO = "NoSuchElementException";
    private static final String[] VALUES = {"times", "pots", "iron", "gone", "beside", "free", "day"};
    private static final String BALCONY = "balcony 1 1 0 0;";
    private static final String WALL = "wall 1 1;";

    public static void main(String[] args) {
        balconies();
        balconyNumbers();
        walls();
        wallNumbers();
        ship();
        shipWithout();
        timesNumbers();
        timesOfADay();
        timesWithout();
        textLength();
        words();
        numbers();
        signs();
        blanks();
        lines();
        exprForms();
        endsTooSoon();
        firstFault();
        leastFault();
        numbersOfFiveDigits();
        exprsWithin();
        nots();
        noValues();
        seconds();
        rulesBehindEachOther();
        wraps();
        divisions();
        tests();
        valuesOfABalcony();
        beside();
        CHECK.end("TextLimitsTest");
    }

    private static void due(String what, Object want, Check.Call call) {
        CHECK.due(what, want, call);
    }

    private static void fault(int kind, int place, String text) {
        Refusal.text(CHECK, kind, place, text);
    }

    private static BalconyPort fine(String text) {
        BalconyPort x = Refusal.past();
        CHECK.due("port of " + text, 0, () -> Check.port(x, text));
        CHECK.due("fault of " + text, -1, x::fault);
        return x;
    }

    /** A number of the text from least to most: both ends are taken, what lies beyond is FAULT 2 at its first byte. */
    private static void range(String before, String after, int least, int most, Refusal.On told) {
        for (int taken : new int[] {least, least + 1, most - 1, most}) {
            BalconyPort x = fine(before + taken + after);
            CHECK.due(before + taken + after, taken, () -> told.answer(x));
        }
        String fourDigits = before + String.format("%04d", most) + after;
        BalconyPort x = fine(fourDigits);
        CHECK.due(fourDigits, most, () -> told.answer(x));
        if (least > 0) {
            fault(2, before.length(), before + (least - 1) + after);
        }
        fault(2, before.length(), before + (most + 1) + after);
        fault(2, before.length(), before + "9999" + after);
        fault(2, before.length(), before + String.format("%05d", most) + after);
        // 1 above 2 to the 32nd and to the 64th: as ints and as longs that wrap they would be 1
        fault(2, before.length(), before + "4294967297" + after);
        fault(2, before.length(), before + "18446744073709551617" + after);
        fault(1, before.length(), before + "-1" + after);
    }

    /** A range whose number can't be left out. */
    private static void needed(String before, String after, int least, int most, Refusal.On told) {
        range(before, after, least, most, told);
        fault(1, before.length(), before + ";");
        fault(1, before.length(), before);
    }

    private static void balconies() {
        CHECK.sentence("BALCONIES 0, 1 .. (at most 10)");
        for (int many : new int[] {0, 1, 9, 10}) {
            BalconyPort x = fine(BALCONY.repeat(many));
            CHECK.due("balconies", many, () -> x.count(0));
            CHECK.due("all at home", (1 << many) - 1, () -> x.count(7));
            CHECK.due("the last one", many == 0 ? NO : "1", () -> x.balcony(many - 1, 0));
            CHECK.due("none behind", NO, () -> x.balcony(many, 0));
        }
        fault(2, 160, BALCONY.repeat(11));
        fault(2, 160, BALCONY.repeat(10) + "balcony");
        fault(2, 160, BALCONY.repeat(10) + "balcony 0 x");
        fault(2, 169, WALL + BALCONY.repeat(10) + BALCONY);
        fault(2, 170, BALCONY.repeat(10) + WALL + " " + BALCONY);
        fault(1, 160, BALCONY.repeat(10) + "balconyy");
    }

    private static void balconyNumbers() {
        CHECK.sentence("IRON (1 to 20), WIDTH (1 to 9), POTS (0 to 9), a STREET (0 to 3)");
        needed("balcony ", " 9 9 3;", 1, 20, x -> x.balcony(0, 0));
        needed("balcony 20 ", " 9 3;", 1, 9, x -> x.balcony(0, 1));
        needed("balcony 20 9 ", " 3;", 0, 9, x -> x.balcony(0, 2));
        needed("balcony 20 9 9 ", ";", 0, 3, x -> x.balcony(0, 3));
        String nine = BALCONY.repeat(9);
        needed(nine + "balcony ", " 1 0 0;", 1, 20, x -> x.balcony(9, 0));
        needed(nine + "balcony 1 1 0 ", ";", 0, 3, x -> x.balcony(9, 3));
        fault(1, 16, "balcony 1 1 0 0 0;");
    }

    private static void walls() {
        CHECK.sentence("WALLS over there 0, 1 .. (at most 10)");
        for (int many : new int[] {0, 1, 9, 10}) {
            BalconyPort x = fine(BALCONY.repeat(10) + WALL.repeat(many));
            CHECK.due("walls", many, () -> x.count(1));
            CHECK.due("all without one", (1 << many) - 1, () -> x.vacant(0));
            CHECK.due("the last one", many == 0 ? NO : "1", () -> x.wall(many - 1, 1));
            CHECK.due("none behind", NO, () -> x.wall(many, 0));
        }
        fault(2, 90, WALL.repeat(11));
        fault(2, 90, WALL.repeat(10) + "wall");
        fault(2, 250, BALCONY.repeat(10) + WALL.repeat(11));
    }

    private static void wallNumbers() {
        CHECK.sentence("WIDTH (1 to 9), RENT (0 to 20)");
        needed("wall ", " 20;", 1, 9, x -> x.wall(0, 0));
        needed("wall 9 ", ";", 0, 20, x -> x.wall(0, 1));
        needed(WALL.repeat(9) + "wall ", " 0;", 1, 9, x -> x.wall(9, 0));
        needed(WALL.repeat(9) + "wall 1 ", ";", 0, 20, x -> x.wall(9, 1));
        fault(1, 9, "wall 1 1 1;");
    }

    private static void ship() {
        CHECK.sentence("a HOLD (1 to 99 of WEIGHT), it sails each so many DAYS (1 to 9), for so many DAYS (1 to 9)");
        needed("ship ", " 9 9;", 1, 99, x -> x.count(2));
        needed("ship 99 ", " 9;", 1, 9, x -> x.count(3));
        needed("ship 99 9 ", ";", 1, 9, x -> x.count(4));
        fault(1, 11, "ship 1 1 1 1;");
    }

    private static void shipWithout() {
        CHECK.sentence("30 without; 3 without; 2 without");
        // of 30 in all both go at once, of 31 the second one on the next sailing, on DAY 3
        BalconyPort both = fine("balcony 20 1 9 0; balcony 1 1 0 0; times 0;");
        CHECK.due("hold", 30, () -> both.count(2));
        CHECK.due("how often", 3, () -> both.count(3));
        CHECK.due("how long", 2, () -> both.count(4));
        CHECK.due("30 go", 1, () -> both.sails(1));
        CHECK.due("for 2 days", 1, () -> both.where(0, 1, 0));
        CHECK.due("for 2 days", 2, () -> both.where(0, 2, 0));
        BalconyPort one = fine("balcony 20 1 9 0; balcony 1 1 1 0; times 0;");
        CHECK.due("31 don't", 4, () -> one.sails(1));
    }

    private static void timesNumbers() {
        CHECK.sentence("TIMES (1 to 10 numbers, 0 to 9 each)");
        fault(1, 6, "times ;");
        fault(1, 5, "times;");
        needed("times ", ";", 0, 9, x -> x.count(6));
        range("times 0 1 2 3 4 5 6 7 8 ", ";", 0, 9, x -> {
            x.days(9);
            return x.count(6);
        });
        fine("times 9 8 7 6 5 4 3 2 1 0;");
        fault(2, 26, "times 9 8 7 6 5 4 3 2 1 0 0;");
        fault(2, 26, "times 9 8 7 6 5 4 3 2 1 0 10;");
        fault(2, 26, "times 9 8 7 6 5 4 3 2 1 0 0 0;");
        fault(1, 26, "times 9 8 7 6 5 4 3 2 1 0 x;");
        fault(1, 25, "times 9 8 7 6 5 4 3 2 1 0");
    }

    private static void timesOfADay() {
        CHECK.sentence("that of DAY d is the (d MOD how many)-th");
        BalconyPort ten = fine("times 9 8 7 6 5 4 3 2 1 0;");
        int[] wanted = {9, 8, 7, 6, 5, 4, 3, 2, 1, 0, 9, 8};
        for (int day = 0; day < wanted.length; day++) {
            CHECK.due("day " + day, wanted[day], () -> ten.count(6));
            ten.days(1);
        }
        BalconyPort one = fine("times 7;");
        one.days(20);
        CHECK.due("one number", 7, () -> one.count(6));
        BalconyPort two = fine("times 7 2;");
        two.days(19);
        CHECK.due("day 19 of two", 2, () -> two.count(6));
        two.days(1);
        CHECK.due("day 20 of two", 7, () -> two.count(6));
    }

    private static void timesWithout() {
        CHECK.sentence("5 without");
        BalconyPort x = fine("");
        CHECK.due("day 0", 5, () -> x.count(6));
        x.days(20);
        CHECK.due("day 20", 5, () -> x.count(6));
        takes(true, "times = 5", "balcony 1 1 0 0; goes ");
    }

    private static void textLength() {
        CHECK.sentence("A TEXT of at most 700 bytes tells it");
        BalconyPort x = fine(" ".repeat(691) + "wall 3 2;");
        CHECK.due("a wall in the last bytes", 2, () -> x.wall(0, 1));
        fine(" ".repeat(700));
        fault(1, 699, " ".repeat(699) + ";");
        fault(1, 700, " ".repeat(692) + "wall 3 2");
        fault(2, 699, " ".repeat(694) + "wall 0");
        fault(3, 699, " ".repeat(694) + "goes x");
        // as many numbers to be reckoned as a text can tell
        takes(true, "0+".repeat(338) + "1 ", BALCONY + "goes ");
        takes(false, "0*".repeat(338) + "1 ", BALCONY + "goes ");
    }

    private static void words() {
        CHECK.sentence("words (a .. z, the longest row)");
        fault(3, 5, "goes a;");
        fault(3, 5, "goes z;");
        fault(3, 5, "goes az;");
        fault(1, 5, "goes `;");
        fault(1, 5, "goes {;");
        fault(1, 5, "goes A;");
        fault(1, 5, "goes Z;");
        fault(1, 0, "wallwall 1 1;");
        fault(1, 0, "walls 1 1;");
        fault(1, 0, "wal 1 1;");
        fault(1, 0, "wa ll 1 1;");
        fault(1, 0, "Wall 1 1;");
        fault(3, 5, "goes potspots;");
        fault(3, 5, "goes notpots;");
        fault(3, 5, "goes nota + 1;");
        fault(1, 10, "goes pots orday;");
        fine("wall1 1;goes not1or day;");
        fine("goes pots+day;");
    }

    private static void numbers() {
        CHECK.sentence("NUMBERS (1 to 4 digits)");
        takes(true, "9999 = 9998+1", BALCONY + "goes ");
        takes(true, "0001 = 1", BALCONY + "goes ");
        takes(true, "0000 = 0", BALCONY + "goes ");
        takes(true, "1000 = 100*10", BALCONY + "goes ");
        fault(2, 5, "goes 10000;");
        fault(2, 5, "goes 00000;");
        fault(1, 5, "goes /;");
        fault(1, 5, "goes :;");
        fault(1, 7, "goes 1 1;");
        fault(2, 6, "times 11;");
        fine("times 1 1;");
        fine("times 1\n1;");
        fault(1, 8, "wall 1 2goes 1;");
    }

    /** Each byte between two numbers of a rule. */
    private static void signs() {
        CHECK.sentence("signs ; ( ) + - * / < =");
        for (int sign = 0; sign <= 255; sign++) {
            String text = "goes 1" + (char) sign + "1;";
            if ("+-*/<=0123456789".indexOf(sign) >= 0) {
                fine(text);
            } else if (" \n;".indexOf(sign) >= 0) {
                fault(1, 7, text);
            } else {
                fault(1, 6, text);
            }
        }
    }

    /** Each byte ahead of a line. */
    private static void blanks() {
        CHECK.sentence("blanks (32, 10) between them count for nothing");
        for (int sign = 0; sign <= 255; sign++) {
            String text = (char) sign + "wall 1 1;";
            if (sign == 32 || sign == 10) {
                fine(text);
            } else {
                fault(1, 0, text);
            }
        }
        fine("\n \nwall\n\n1  1 ; \n");
        fine("goes(((((1)+1)*1)-(1))<(day))and not(pots)or(1);");
    }

    private static void lines() {
        CHECK.sentence("PORT: LINE*");
        fine("");
        fine(" \n");
        fine(WALL);
        fine("goes 1;times 1;ship 1 1 1;wall 1 1;balcony 1 1 1 1;wall 2 2;");
        fault(1, 0, ";");
        fault(1, 9, "wall 1 1;;");
        fault(1, 9, "wall 1 1;1");
        fault(1, 9, "wall 1 1;(");
        fault(1, 9, "wall 1 1;pots");
        fault(1, 8, "wall 1 1)");
        fault(1, 8, "wall 1 1wall 1 1;");
        fault(1, 5, "wall wall 1 1;");
        fault(1, 7, "wall 1 ;");
    }

    private static void exprForms() {
        CHECK.sentence("NOT: 'not' NOT | SUM [('<' | '=') SUM]");
        fine("goes 1<2;");
        fault(1, 8, "goes 1<2<3;");
        fault(1, 8, "goes 1=2=3;");
        fault(1, 8, "goes 1<2=3;");
        fine("goes (1<2)<3;");
        fine("goes 1<2 and 1<2 or 1=2;");
        fault(1, 7, "goes 1<<2;");
        fault(1, 7, "goes 1 not 2;");
        fault(1, 5, "goes ;");
        fault(1, 6, "goes ();");
        fault(1, 6, "goes 1);");
        fault(1, 7, "goes (1;");
        fault(1, 5, "goes +1;");
        fault(1, 6, "goes 1(2);");
        fault(1, 8, "goes (1)(2);");
        fault(1, 9, "goes 1 or;");
        fault(1, 10, "goes 1 and;");
        fault(1, 8, "goes not;");
    }

    private static void endsTooSoon() {
        CHECK.sentence("(the text's length where it ends too soon)");
        String text = "wall 9 2;goes not(1+pots)<3 or day;";
        // of each length the fault, and its place where that isn't the length; "." fine, "w" FAULT 1 at 0, "g" at 9,
        // "n" FAULT 3 at 14, "p" at 20, "o" FAULT 1 at 28, "d" FAULT 3 at 31
        String due = ".www11111.ggg11nn1111ppp11111o11dd1.";
        for (int length = 0; length <= text.length(); length++) {
            String part = text.substring(0, length);
            switch (due.charAt(length)) {
                case '.': fine(part); break;
                case 'w': fault(1, 0, part); break;
                case 'g': fault(1, 9, part); break;
                case 'n': fault(3, 14, part); break;
                case 'p': fault(3, 20, part); break;
                case 'o': fault(1, 28, part); break;
                case 'd': fault(3, 31, part); break;
                default: fault(1, length, part);
            }
        }
        fault(1, 7, "wall   ");
        fault(1, 8, "wall 1 \n");
        fault(1, 6, "goes \n");
        // the tape has more, but the text is only as long as told
        BalconyPort x = new BalconyPort();
        Check.feed(x, "wall 1 1;");
        CHECK.due("port(8)", 1, () -> x.port(8));
        CHECK.due("its place", 8, x::fault);
        Check.feed(x, "wall 10 1;");
        CHECK.due("port(6)", 1, () -> x.port(6));
        CHECK.due("its place", 6, x::fault);
        Check.feed(x, "wall 10 1;");
        CHECK.due("port(7)", 2, () -> x.port(7));
        CHECK.due("its place", 5, x::fault);
    }

    private static void firstFault() {
        CHECK.sentence("FAULTS, the first along the text, at a TOKEN's first byte");
        fault(2, 5, "wall 0 0; x");
        fault(1, 0, "x wall 0 0;");
        fault(3, 9, "goes 1 + xyz + 12345;");
        fault(2, 9, "goes 1 + 12345 + xyz;");
        fault(5, 11, "ship 1 1 1;ship 0 0 0;");
        fault(2, 5, "ship 100 1 1;ship 1 1 1;");
        fault(2, 7, "wall 1 99999;");
        fault(2, 5, "wall 10 99999;");
        fault(1, 7, "wall 1 x 99999;");
    }

    private static void leastFault() {
        CHECK.sentence("of one TOKEN the least");
        // a word that is no VALUE, and the first of an EXPR within 6 others
        fault(2, 11, "goes ((((((xyz");
        // a sign that can't stand there, and the first of an EXPR within 6 others
        fault(1, 11, "goes ((((((<");
        fault(1, 11, "goes (((((()");
        fault(1, 11, "goes ((((((#");
        // a NUMBER of 5 digits where none can stand
        fault(1, 0, "12345;");
        fault(1, 7, "goes 1 12345;");
        fault(1, 9, "wall 1 1 12345;");
        // a number of 5 digits that is the 11th of TIMES, or first in an EXPR within 6 others
        fault(2, 26, "times 1 1 1 1 1 1 1 1 1 1 12345;");
        fault(2, 11, "goes ((((((12345");
    }

    private static void numbersOfFiveDigits() {
        CHECK.sentence("2 one that can, but is too much: a NUMBER of 5 digits or more, or (not in an EXPR) not as told");
        fine("goes 9999;");
        fine("goes 21*100+9999;");
        fault(2, 5, "goes 12345;");
        fault(2, 7, "goes 1+12345;");
        fault(2, 9, "goes not 123456789;");
        fault(2, 6, "goes (12345);");
        fault(2, 13, "goes 1<2 and 00001;");
        fault(2, 6, "times 00001;");
        fault(2, 8, "times 1 00001;");
        fault(2, 5, "ship 00001 1 1;");
        fault(2, 5, "ship 0 1 1;");
        fault(2, 8, "balcony 00001 1 1 1;");
    }

    private static void exprsWithin() {
        CHECK.sentence("the first TOKEN .. of an EXPR within 6 others (a NUMBER, any word, a parenthesis)");
        for (String first : new String[] {"1", "pots", "not 1", "(1)", "12"}) {
            if (!first.startsWith("(")) {
                fine("goes (((((" + first + ")))));");
            }
            fine("goes ((((" + first + "))));");
            fault(2, 11, "goes ((((((" + first + "))))));");
        }
        for (String word : new String[] {"x", "or", "and", "goes", "wall", "times", "9999", "("}) {
            fault(2, 11, "goes ((((((" + word);
        }
        for (String none : new String[] {")", "+", "-", "*", "/", "<", "=", ";", "#", "", " "}) {
            fault(1, none.equals(" ") ? 12 : 11, "goes ((((((" + none);
        }
        fault(2, 13, "goes 1+((((((1))))));");
        fault(2, 13, "goes (((((1+(1))))));");
        fault(2, 30, "goes (((((1))))) or not ((((((1))))));");
        fault(2, 19, "goes not (not (((((1))))));");
        fine("goes not (not ((((1)))));");
        fine("goes (((((1)))))+(((((1)))))*(((((1)))))<(((((1))))) and (((((1))))) or not (((((1)))));");
    }

    private static void nots() {
        CHECK.sentence("the seventh 'not' side by side");
        String not = "not ";
        fine("goes " + not.repeat(5) + "1;");
        fine("goes " + not.repeat(6) + "1;");
        fault(2, 29, "goes " + not.repeat(7) + "1;");
        fault(2, 29, "goes " + not.repeat(8) + "1;");
        fault(2, 29, "goes " + not.repeat(7));
        fault(1, 29, "goes " + not.repeat(6) + ";");
        fault(3, 29, "goes " + not.repeat(6) + "nots;");
        fault(2, 30, "goes (" + not.repeat(7) + "1);");
        fault(2, 34, "goes 1 or " + not.repeat(7) + "1;");
        fault(2, 35, "goes 1 and " + not.repeat(7) + "1;");
        fine("goes " + not.repeat(6) + "(" + not.repeat(6) + "1);");
        fine("goes " + not.repeat(6) + "1 and " + not.repeat(6) + "1 or " + not.repeat(6) + "1;");
        takes(true, not.repeat(6) + "1", BALCONY + "goes ");
        takes(false, not.repeat(5) + "1", BALCONY + "goes ");
        takes(false, not.repeat(6) + "0", BALCONY + "goes ");
    }

    private static void noValues() {
        CHECK.sentence("3 any word where a PART must stand that is no VALUE");
        String[] ahead = {"", "(", "not ", "1 and ", "1 or ", "1<", "1=", "1+", "1-", "1*", "1/"};
        String[] words = {"x", "or", "and", "goes", "balcony", "wall", "ship", "pot", "potss", "timesa", "irons", "g", "days", "freed", "besid"};
        for (String before : ahead) {
            for (String value : VALUES) {
                fine("goes " + before + value + (before.equals("(") ? ");" : ";"));
            }
            for (String word : words) {
                fault(3, 5 + before.length(), "goes " + before + word + " 1;");
            }
        }
        for (String before : new String[] {"1<", "1=", "1+", "1-", "1*", "1/"}) {
            fault(3, 7, "goes " + before + "not 1;");
        }
        // where no PART must stand, a word is FAULT 1
        for (String word : words) {
            boolean joins = word.equals("or") || word.equals("and");
            fault(1, joins ? 8 + word.length() : 7, "goes 1 " + word + " ;");
            fault(1, 5, "wall " + word + " 1;");
        }
        fault(1, 0, "pots 1;");
        fault(1, 7, "goes 1 pots;");
    }

    private static void seconds() {
        CHECK.sentence("5 a second 'ship', 'times', 'goes'");
        String[] lines = {"ship 1 1 1;", "times 1;", "goes 1;"};
        for (String line : lines) {
            fine(line);
            fault(5, line.length(), line + line);
            fault(5, line.length() + 9, line + WALL + line);
            fault(5, line.length(), line + line.split(" ")[0]);
            fault(5, line.length(), line + line.split(" ")[0] + " x");
        }
        fault(5, 26, lines[0] + lines[1] + lines[2] + lines[2]);
        fault(5, 26, lines[0] + lines[1] + lines[2] + lines[0]);
        fine("times 1; goes times + times;");
        fine(lines[2] + lines[1] + lines[0]);
        // a second text may have one of each again, behind a fine one and behind one with a FAULT
        BalconyPort x = fine(lines[0] + lines[1] + lines[2]);
        CHECK.due("again", 0, () -> Check.port(x, lines[0] + lines[1] + lines[2]));
        CHECK.due("with a fault", 1, () -> Check.port(x, lines[0] + lines[1] + lines[2] + "x"));
        CHECK.due("and again", 0, () -> Check.port(x, lines[0] + lines[1] + lines[2]));
    }

    private static void rulesBehindEachOther() {
        CHECK.sentence("3: are a PORT, all anew: a rule, too");
        BalconyPort x = fine(BALCONY + "goes 1-5+0*7-9;");
        due("below 0", 0, () -> x.balcony(0, 7));
        Check.port(x, BALCONY + "goes 1;");
        due("a shorter one", 1, () -> x.balcony(0, 7));
        Check.port(x, BALCONY + "goes not 1;");
        due("a longer one", 0, () -> x.balcony(0, 7));
        Check.port(x, BALCONY + "goes 1;");
        due("a shorter one", 1, () -> x.balcony(0, 7));
        Check.port(x, BALCONY + "times 4;");
        due("none", 1, () -> x.balcony(0, 7));
        Check.port(x, BALCONY);
        due("none", 0, () -> x.balcony(0, 7));
    }

    /** Whether a rule behind a text takes balcony 0 now. */
    private static void takes(boolean due, String rule, String text) {
        BalconyPort x = fine(text + rule + ";");
        CHECK.due(rule, due ? 1 : 0, () -> x.balcony(0, 7));
    }

    private static void holds(String rule) {
        takes(true, rule, "balcony 7 2 3 0; wall 1 1; times 4 6; goes ");
    }

    private static void fails(String rule) {
        takes(false, rule, "balcony 7 2 3 0; wall 1 1; times 4 6; goes ");
    }

    private static void wraps() {
        CHECK.sentence("ints that wrap");
        String most = "(2147*1000*1000+483*1000+647)";
        String least = "(0-2147*1000*1000-483*1000-648)";
        holds(most);
        fails(most + "+1");
        holds(most + "+1 = " + least);
        fails(least);
        holds(least + "-1 = " + most);
        holds("0-" + least + " = " + least);
        holds(most + "*2 = 0-2");
        holds(least + "*2 = 0");
        holds("4096*4096*256 = 0");
        holds("4096*4096*128 = " + least);
        holds(most + "+" + most + " = 0-2");
        holds(least + " < " + most);
        fails(most + " < " + least);
    }

    private static void divisions() {
        CHECK.sentence("/ cut down to 0, by 0 gives 0");
        holds("7/2 = 3");
        holds("(0-7)/2 = 0-3");
        holds("7/(0-2) = 0-3");
        holds("(0-7)/(0-2) = 3");
        holds("1/2 = 0");
        holds("(0-1)/2 = 0");
        holds("6/7 = 0");
        holds("7/7 = 1");
        fails("7/0");
        holds("7/0 = 0");
        holds("0/0 = 0");
        holds("(0-7)/0 = 0");
        holds("1 + 7/0");
        holds("7/(pots-3) = 0");
        holds("5/0*2+1 = 1");
        holds("(0-2147*1000*1000-483*1000-648)/0 = 0");
        // the one quotient that wraps
        holds("(0-2147*1000*1000-483*1000-648)/(0-1) = 0-2147*1000*1000-483*1000-648");
        holds("100/10/5 = 2");
        holds("8/3*3 = 6");
        holds("10-3-2 = 5");
    }

    private static void tests() {
        CHECK.sentence("tests, not, and, or are 1 or 0 (what isn't 0 holds)");
        holds("(2<3) = 1");
        holds("(3<3) = 0");
        holds("(4<3) = 0");
        holds("(2=3) = 0");
        holds("(3=3) = 1");
        holds("(0-1<0) = 1");
        holds("(not 0) = 1");
        holds("(not 1) = 0");
        holds("(not 2) = 0");
        holds("(not (0-1)) = 0");
        holds("(5 and 7) = 1");
        holds("(0-5 and 0-7) = 1");
        holds("(5 and 0) = 0");
        holds("(0 and 5) = 0");
        holds("(0 and 0) = 0");
        holds("(5 or 0) = 1");
        holds("(0 or 0-5) = 1");
        holds("(0 or 0) = 0");
        holds("(5 or 7) = 1");
        // alone they are what they are
        holds("(5) = 5");
        fails("0-5");
        holds("0-5 or 0");
        holds("1 or 1 and 0");
        fails("(1 or 1) and 0");
        holds("not 1 = 2");
        holds("not 0 and 1");
        fails("not 1 or 0");
    }

    private static void valuesOfABalcony() {
        CHECK.sentence("VALUES of a BALCONY on a DAY");
        String ten = BALCONY.repeat(10);
        takes(true, "gone = 0 and beside = 0 and free = 10 and day = 0", ten + WALL.repeat(10) + "goes ");
        takes(true, "free = 0", ten + "goes ");
        takes(true, "pots = 9 and iron = 20", "balcony 20 1 9 0; goes ");
        takes(true, "pots = 0 and iron = 1", BALCONY + "goes ");
        BalconyPort x = fine(ten + WALL.repeat(9) + "ship 9 1 1; goes day = 0 or gone = 9 and beside = 1 and free = 0 and day = 999;");
        x.days(1);
        for (int i = 0; i < 49; i++) {
            x.days(20);
        }
        CHECK.due("nine are gone", 0x1ff, () -> x.count(10));
        CHECK.due("day 981", 0, () -> x.balcony(9, 7));
        x.days(18);
        CHECK.due("day 999", 1, () -> x.balcony(9, 7));
        for (int b = 0; b < 10; b++) {
            int balcony = b;
            BalconyPort pots = fine(ten + "goes pots = 9;");
            pots.pots(b, 9);
            for (int c = 0; c < 10; c++) {
                int other = c;
                due("pots of " + c, c == b ? 1 : 0, () -> pots.balcony(other, 7));
            }
            // it is none of the others itself, wherever it is
            BalconyPort gone = fine(ten + "goes gone = 0 and beside = 0;");
            gone.sweep(b);
            due("none of the others is gone", 1, () -> gone.balcony(balcony, 7));
            due("one of the others is", 0, () -> gone.balcony(9 - balcony, 7));
        }
        // whatever the place: gone is all but AT HOME; one of another STREET is none of these
        BalconyPort y = fine("balcony 20 2 1 0; balcony 4 3 2 0; balcony 1 9 3 0; balcony 1 1 4 0; balcony 3 1 5 0; balcony 9 1 0 1;"
            + "wall 1 7; wall 4 2; ship 99 1 3; goes iron = day+1 or gone = 4 and iron = 20 or iron = 9 and gone;");
        y.sweep(4);
        y.days(4);
        CHECK.due("at home", 33, () -> y.count(7));
        CHECK.due("at sea, on the quay, on a wall, lost", 1, () -> y.balcony(0, 7));
        CHECK.due("none of its street", 0, () -> y.balcony(5, 7));
    }

    private static void beside() {
        CHECK.sentence("beside each other are those next in number in one STREET");
        BalconyPort ten = fine(BALCONY.repeat(10));
        CHECK.due("the first one", 2, () -> ten.beside(0));
        CHECK.due("one in the midst", 1 << 3 | 1 << 5, () -> ten.beside(4));
        CHECK.due("the last one", 1 << 8, () -> ten.beside(9));
        BalconyPort alone = fine("balcony 1 1 0 0; balcony 1 1 0 1; balcony 1 1 0 1; balcony 1 1 0 3;");
        CHECK.due("alone, the first", 0, () -> alone.beside(0));
        CHECK.due("two", 4, () -> alone.beside(1));
        CHECK.due("two", 2, () -> alone.beside(2));
        CHECK.due("alone, the last", 0, () -> alone.beside(3));
        // read as: with none of their STREET between them
        BalconyPort far = fine(BALCONY + "balcony 1 1 0 1;".repeat(8) + BALCONY);
        CHECK.due("far apart", 1 << 9, () -> far.beside(0));
        CHECK.due("far apart", 1, () -> far.beside(9));
        CHECK.due("the first of the others", 1 << 2, () -> far.beside(1));
        CHECK.due("the last of the others", 1 << 7, () -> far.beside(8));
    }
}
