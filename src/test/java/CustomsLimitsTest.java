import java.util.HashSet;
import java.util.Set;

/** The boundary cases that "==== 4." names, of customs, games, storms, status, images, and those of promises 33 to 40. */
public final class CustomsLimitsTest {
    private static final Check CHECK = new Check();
    private static final String NO = "NoSuchElementException";
    private static final String BAD = "IllegalArgumentException";
    private static final int[] FAR = {Integer.MIN_VALUE, -2, 100, Integer.MAX_VALUE};

    public static void main(String[] args) {
        seenMany();
        seenDays();
        seenPots();
        forgets();
        wrongOtherNumbers();
        wrongFirst();
        wrongAtTheEnd();
        wrongFromNowOn();
        wrongWithout();
        wrongWhat();
        lookDays();
        lookOfLikeOnes();
        lookNone();
        gameAlone();
        gameBoth();
        gameAsManyPots();
        gameStays();
        gameWhat();
        gameWho();
        stormDays();
        stormWhat();
        stormSeeds();
        stormAheadOfEach();
        stormWithout();
        statusNotCounted();
        imageKeeps();
        imageInPlace();
        imageOfFullActs();
        restoreNone();
        CHECK.end("CustomsLimitsTest");
    }

    private static void due(String what, Object want, Check.Call call) {
        CHECK.due(what, want, call);
    }

    private static void thrown(String what, String want, Refusal.On call) {
        Refusal.due(CHECK, what, want, Refusal.NO_STATUS, call);
    }

    private static void refused(String what, Refusal.On call) {
        Refusal.due(CHECK, what, -1, Refusal.SEEN, call);
    }

    private static void seenMany() {
        CHECK.sentence("SEEN (at most 8). 33: how much is. NONE (STATUS 2): there are 8");
        BalconyPort x = new BalconyPort();
        for (int i = 1; i <= 8; i++) {
            int many = i;
            due("see", many, () -> x.see(1, 0));
            due("seen", many, () -> x.count(14));
        }
        for (int i = 1; i <= 3; i++) {
            int many = i;
            due("the ninth", -1, () -> x.see(1, 0));
            due("status 2", many, () -> x.count(18));
            due("seen", 8, () -> x.count(14));
        }
        due("and not 1 to 30: refused once", -1, () -> x.see(0, 100));
        due("status 2", 4, () -> x.count(18));
        Refusal.due(CHECK, "a ninth that would not be so", -1, Refusal.SEEN, y -> {
            for (int i = 0; i < 7; i++) {
                y.see(1, 2);
            }
            return null;
        }, y -> y.see(1, 99));
        // all eight count
        for (int odd = 0; odd < 8; odd++) {
            BalconyPort y = new BalconyPort();
            for (int i = 0; i < 8; i++) {
                y.see(1, i == odd ? 1 : 0);
            }
            due("number " + odd + " isn't so", 0, () -> y.wrong(2));
        }
    }

    private static void seenDays() {
        CHECK.sentence("at the end of the DAY so many from now (1 to 30). 33: NONE (STATUS 2): not 1 to 30");
        for (int days : new int[] {1, 2, 29, 30}) {
            BalconyPort x = Refusal.past();
            due("see(" + days + ")", 2, () -> x.see(days, 0));
            due("status 2", 1, () -> x.count(18));
        }
        for (int days : new int[] {0, -1, 31, 32, Integer.MIN_VALUE, Integer.MAX_VALUE}) {
            refused("see(" + days + ")", x -> x.see(days, 0));
        }
    }

    private static void seenPots() {
        CHECK.sentence("so many POTS (0 to 99). 33: NONE (STATUS 2): not 0 to 99");
        for (int pots : new int[] {0, 1, 98, 99}) {
            BalconyPort x = Refusal.past();
            due("see(1, " + pots + ")", 2, () -> x.see(1, pots));
            due("status 2", 1, () -> x.count(18));
        }
        for (int pots : new int[] {-1, 100, Integer.MIN_VALUE, Integer.MAX_VALUE}) {
            refused("see(1, " + pots + ")", x -> x.see(1, pots));
        }
    }

    private static void forgets() {
        CHECK.sentence("36: All that is SEEN is forgotten");
        BalconyPort x = Refusal.past();
        x.see(1, 99);
        due("not so", 0, () -> x.wrong(2));
        x.forget();
        due("none", 0, () -> x.count(14));
        due("so", 1, () -> x.wrong(2));
        due("status stays", 1, () -> x.count(18));
        due("acts stay", 3, () -> x.count(13));
        x.forget();
        due("again", 0, () -> x.count(14));
        for (int i = 1; i <= 8; i++) {
            int many = i;
            due("eight again", many, () -> x.see(1, 2));
        }
        due("the ninth", -1, () -> x.see(1, 2));
    }

    /** Some that all go on the day told for two days, each with 3 pots. */
    private static BalconyPort going(int many, int day) {
        return Check.of("balcony 1 1 3 0;".repeat(many) + "ship 99 1 2; goes day = " + day + ";");
    }

    private static void wrongOtherNumbers() {
        CHECK.sentence("COUNTED WRONG: BALCONIES and POTS (0 to 9, another number than it has) by one of which all SEEN would be so: how many");
        due("without any seen", 9, () -> going(1, 0).wrong(0));
        due("ten", 90, () -> going(10, 0).wrong(0));
        due("none", 0, () -> new BalconyPort().wrong(0));
        for (int pots = 0; pots <= 10; pots++) {
            BalconyPort x = going(1, 0);
            x.see(1, pots);
            boolean other = pots != 3 && pots <= 9;
            due("seen " + pots, other ? 1 : 0, () -> x.wrong(0));
            due("which", other ? pots : -1, () -> x.wrong(1));
            due("without", pots == 3 ? 1 : 0, () -> x.wrong(2));
        }
        BalconyPort two = going(2, 0);
        two.see(1, 12);
        due("either with 9", 2, () -> two.wrong(0));
        due("the first with 9", 9, () -> two.wrong(1));
        BalconyPort more = going(2, 0);
        more.see(1, 13);
        due("neither", 0, () -> more.wrong(0));
        // lost ones and those over there may have been counted wrong, too, as nothing of them is seen
        BalconyPort x = Refusal.past();
        x.forget();
        due("five", 45, () -> x.wrong(0));
    }

    private static void wrongFirst() {
        CHECK.sentence("the first (10 by the BALCONY, and POTS). 34: NONE: none");
        String nine = "balcony 1 1 0 0;".repeat(9);
        BalconyPort last = Check.of(nine + "balcony 2 1 0 0; ship 99 1 2; goes iron = 2;");
        due("the first of all", 1, () -> last.wrong(1));
        last.see(1, 9);
        due("one", 1, () -> last.wrong(0));
        due("the last of all", 99, () -> last.wrong(1));
        last.see(1, 8);
        due("both can't be", 0, () -> last.wrong(0));
        due("none", -1, () -> last.wrong(1));
        due("none at first", -1, () -> new BalconyPort().wrong(1));
        BalconyPort x = going(2, 0);
        x.see(1, 5);
        due("two", 2, () -> x.wrong(0));
        due("the first of two", 2, () -> x.wrong(1));
        due("the first has some", 0, () -> going(2, 0).wrong(1));
    }

    private static void wrongAtTheEnd() {
        CHECK.sentence("AT SEA, at the end of the DAY so many from now");
        // gone on the 30th day from now
        BalconyPort late = going(1, 29);
        late.see(29, 0);
        due("at home", 9, () -> late.wrong(0));
        late.see(30, 5);
        due("at sea", 1, () -> late.wrong(0));
        due("with 5", 5, () -> late.wrong(1));
        BalconyPort later = going(1, 30);
        later.see(30, 5);
        due("not yet at sea", 0, () -> later.wrong(0));
        BalconyPort soon = going(1, 0);
        soon.see(1, 5);
        due("at sea", 1, () -> soon.wrong(0));
        soon.see(2, 0);
        due("there", 1, () -> soon.wrong(0));
        soon.see(2, 1);
        due("there with none at sea", 0, () -> soon.wrong(0));
        // ten that all hang, the first of them on the second wall: none is at sea
        BalconyPort full = Check.of("balcony 1 2 0 0;" + "balcony 1 3 4 0;".repeat(9) + "wall 3 0; wall 2 0;" + "wall 3 0;".repeat(8) + "ship 99 1 1; goes 1;");
        full.days(1);
        due("all hang", 1023, () -> full.count(10));
        full.see(1, 0);
        due("none at sea", 1, () -> full.wrong(2));
        due("no weight at sea", -1, () -> full.fullest(0));
        // one that goes back is at sea, too
        BalconyPort back = going(1, 0);
        back.days(2);
        back.back(0);
        back.see(1, 3);
        due("so", 1, () -> back.wrong(2));
    }

    private static void wrongFromNowOn() {
        CHECK.sentence("by one of which all SEEN would be so, from now on");
        // more pots are too heavy from now on, so it isn't taken at all
        BalconyPort heavy = Check.of("balcony 5 1 3 0; ship 10 1 2; goes 1;");
        heavy.see(1, 0);
        due("with none, or too heavy with 6 to 9", 5, () -> heavy.wrong(0));
        due("the first", 0, () -> heavy.wrong(1));
        // read as: the days are counted from the day on which it is asked
        BalconyPort x = going(1, 1);
        x.see(1, 3);
        due("at home at the end of the first day", 0, () -> x.wrong(2));
        x.days(1);
        due("at sea at the end of the next", 1, () -> x.wrong(2));
        due("still seen", 1, () -> x.count(14));
        x.days(1);
        due("there at the end of the next", 0, () -> x.wrong(2));
    }

    private static void wrongWithout() {
        CHECK.sentence("whether it is so without (1)");
        due("nothing seen", 1, () -> going(1, 0).wrong(2));
        due("nothing seen, none there", 1, () -> new BalconyPort().wrong(2));
        BalconyPort none = new BalconyPort();
        none.see(30, 0);
        due("none at sea", 1, () -> none.wrong(2));
        none.see(30, 1);
        due("none at sea", 0, () -> none.wrong(2));
        BalconyPort x = going(1, 29);
        x.see(30, 3);
        due("so", 1, () -> x.wrong(2));
        due("by no other number", 0, () -> x.wrong(0));
        x.see(30, 4);
        due("not so", 0, () -> x.wrong(2));
    }

    private static void wrongWhat() {
        CHECK.sentence("34: NoSuchElementException: another what");
        thrown("what -1", NO, x -> x.wrong(-1));
        thrown("what 3", NO, x -> x.wrong(3));
        for (int what : FAR) {
            thrown("what " + what, NO, x -> x.wrong(what));
        }
    }

    private static void lookDays() {
        CHECK.sentence("LOOK NEXT: the DAY (1 to 30 from now) at whose end POTS AT SEA by these are most unlike: how many unlike numbers");
        int[][] some = {{0, 1, 9}, {1, 2, 9}, {28, 29, 9}, {29, 30, 9}, {30, 1, 1}};
        for (int[] one : some) {
            due("gone on day " + one[0], one[1], () -> going(1, one[0]).look(0));
            due("how many", one[2], () -> going(1, one[0]).look(1));
        }
        BalconyPort x = going(1, 35);
        x.days(5);
        due("31 from now", 1, () -> x.look(0));
        x.days(1);
        due("30 from now", 30, () -> x.look(0));
        due("ten: fewer by up to 3, more by up to 6", 9, () -> going(10, 0).look(1));
        // the one with one pot goes, and all behind it: 65, 57, 49 .. 1 at sea, or none at all
        BalconyPort apart = Check.of("balcony 1 1 0 0;" + "balcony 1 1 8 0;".repeat(8) + "ship 99 1 2; goes pots = 1 or gone;");
        due("far apart", 10, () -> apart.look(1));
        due("the first day", 1, () -> apart.look(0));
        BalconyPort most = Check.of("balcony 1 1 9 0;".repeat(9) + "balcony 1 1 8 0; ship 99 1 2; goes 1;");
        due("89 at sea, or fewer by up to 9", 9, () -> most.look(1));
        most.see(1, 80);
        due("each of nine without any", 9, () -> most.wrong(0));
    }

    private static void lookOfLikeOnes() {
        CHECK.sentence("LOOK NEXT: of like ones the first");
        BalconyPort long9 = Check.of("balcony 1 1 3 0; ship 99 1 9; goes day = 4;");
        due("the first of eight days", 5, () -> long9.look(0));
        BalconyPort x = going(1, 3);
        due("before anything is seen", 4, () -> x.look(0));
        x.see(4, 7);
        due("one number on each day", 1, () -> x.look(0));
        due("one", 1, () -> x.look(1));
        // the second one's numbers come to be seen on the second day, and then there are more
        BalconyPort more = Check.of("balcony 1 1 3 0; balcony 2 1 3 0; ship 99 1 3; goes iron = day + 1;");
        due("first day", 1, () -> {
            more.see(1, 4);
            return more.wrong(0);
        });
        more.forget();
        more.see(1, 3);
        due("the second one's", 2, () -> more.look(0));
        due("how many", 9, () -> more.look(1));
    }

    private static void lookNone() {
        CHECK.sentence("none without any. 35: the DAY (what 0; NONE), how many (1; 0: none). NoSuchElementException: another what");
        BalconyPort x = going(1, 0);
        x.see(1, 99);
        due("none", -1, () -> x.look(0));
        due("none", 0, () -> x.look(1));
        due("no balconies", -1, () -> new BalconyPort().look(0));
        due("no balconies", 0, () -> new BalconyPort().look(1));
        BalconyPort so = going(1, 0);
        so.see(1, 3);
        due("so without, but by none", -1, () -> so.look(0));
        thrown("what -1", NO, y -> y.look(-1));
        thrown("what 2", NO, y -> y.look(2));
        for (int what : FAR) {
            thrown("what " + what, NO, y -> y.look(what));
        }
    }

    /** Two on the quay, of widths 4 and 6 and with pots as told; the wall becomes as wide and as dear as told. */
    private static BalconyPort players(int pots, int others, int width, int rent) {
        BalconyPort x = Check.of("balcony 1 4 " + pots + " 0; balcony 1 6 " + others + " 1; wall 1 0; ship 99 1 1; goes 1;");
        x.days(1);
        x.widen(0, width);
        x.rent(0, rent);
        return x;
    }

    private static void game(BalconyPort x, int many, int first) {
        due("how many rest", many, () -> x.game(0, 1, 0, 0));
        due("the first", first, () -> x.game(0, 1, 0, 1));
    }

    private static void gameAlone() {
        CHECK.sentence("who goes alone has its RENT, if it is of WIDTH enough, else nothing");
        // the first one stays on its dear wall; the second one, on the quay, has more by going alone, if that gives anything
        int[][] some = {{6, 4, 1}, {5, 4, 0}, {9, 4, 1}, {1, 4, 0}, {6, 0, 0}, {6, 1, 1}, {5, 19, 0}};
        for (int[] one : some) {
            BalconyPort x = Check.of("balcony 1 1 1 0; balcony 1 6 0 1; wall 1 20; wall 1 0; ship 99 1 1; goes 1;");
            x.days(1);
            x.widen(1, one[0]);
            x.rent(1, one[1]);
            boolean more = one[2] == 1;
            due("how many rest, width " + one[0] + ", rent " + one[1], more ? 1 : 2, () -> x.game(0, 1, 1, 0));
            due("the first", more ? 1 : 0, () -> x.game(0, 1, 1, 1));
            due("the other way round", more ? 1 : 2, () -> x.game(1, 0, 1, 0));
            due("the first", more ? 10 : 0, () -> x.game(1, 0, 1, 1));
        }
        // too narrow for both: nothing alone; less than nothing for the one with more pots, if both go
        game(players(1, 0, 3, 4), 3, 0);
        game(players(1, 0, 9, 0), 3, 0);
    }

    private static void gameBoth() {
        CHECK.sentence("if both go, the one with more POTS has that (nothing, if it isn't of WIDTH enough) less 5, the other one nothing");
        game(players(1, 0, 9, 4), 2, 1);
        game(players(1, 0, 9, 5), 3, 1);
        game(players(1, 0, 9, 6), 2, 10);
        game(players(9, 8, 9, 5), 3, 1);
        game(players(9, 0, 9, 6), 2, 10);
        // the other one has more
        game(players(0, 1, 9, 4), 2, 1);
        game(players(0, 1, 9, 5), 3, 1);
        game(players(0, 1, 9, 6), 2, 1);
        due("told from the other side", 10, () -> players(0, 1, 9, 6).game(1, 0, 0, 1));
        // the one with more is of WIDTH 6: if that is enough, it goes in any case, else only alone
        due("wide enough", 10, () -> players(0, 1, 6, 20).game(1, 0, 0, 1));
        due("too narrow", 1, () -> players(0, 1, 5, 20).game(1, 0, 0, 1));
        due("how many rest", 2, () -> players(0, 1, 5, 20).game(1, 0, 0, 0));
        // of WIDTH 4
        game(players(1, 0, 4, 20), 2, 10);
        game(players(1, 0, 3, 20), 3, 0);
    }

    private static void gameAsManyPots() {
        CHECK.sentence("(nothing both, if they have as many)");
        game(players(0, 0, 9, 1), 3, 1);
        game(players(9, 9, 9, 20), 3, 1);
        game(players(5, 5, 9, 0), 4, 0);
        game(players(5, 5, 3, 20), 4, 0);
    }

    private static void gameStays() {
        CHECK.sentence("who stays has the RENT of the WALL where it hangs (nothing on THE QUAY). A couple RESTS, if neither has more by the other choice");
        // on walls 0 and 1 with RENT 3 each; over wall 2
        for (int rent = 2; rent <= 9; rent++) {
            BalconyPort x = Check.of("balcony 1 1 1 0; balcony 1 1 0 0; wall 1 3; wall 1 3; wall 9 " + rent + "; ship 99 1 1; goes 1;");
            x.days(1);
            // 2: both stay. 3: none has more by going alone, and alone it has as much. 4 to 7: one goes. 8: the first one may
            // go, too, but the second one has nothing then. 9: the first one goes
            int[] many = {0, 0, 1, 3, 2, 2, 2, 2, 2, 1};
            int[] first = {0, 0, 0, 0, 1, 1, 1, 1, 1, 10};
            int told = rent;
            due("rent " + rent, many[rent], () -> x.game(0, 1, 2, 0));
            due("rent " + rent, first[told], () -> x.game(0, 1, 2, 1));
        }
        // the last of ten on walls of their own, over the last wall of all
        BalconyPort ten = Check.of("balcony 1 1 0 0;".repeat(8) + "balcony 1 1 1 0; balcony 1 2 0 0;" + "wall 1 0;".repeat(7) + "wall 1 9; wall 1 3; wall 2 2; ship 99 1 1; goes 1;");
        ten.days(1);
        due("on wall 8", 8, () -> ten.balcony(8, 5));
        due("on wall 9", 9, () -> ten.balcony(9, 5));
        // 9 for one that goes alone, 4 for the first one if both go; they stay for 3 and 2: the first goes in any case
        ten.widen(7, 2);
        due("how many rest", 1, () -> ten.game(8, 9, 7, 0));
        due("the first", 10, () -> ten.game(8, 9, 7, 1));
        ten.rent(8, 4);
        due("for 4 it may stay, if the other one goes", 2, () -> ten.game(8, 9, 7, 0));
        due("the first", 1, () -> ten.game(8, 9, 7, 1));
        ten.rent(9, 20);
        due("the second one stays for 20", 1, () -> ten.game(8, 9, 7, 0));
        due("the first", 10, () -> ten.game(8, 9, 7, 1));
        // two of ten on the quay, all walls of RENT 5: one of them goes
        BalconyPort quay = Check.of("balcony 1 1 0 0;".repeat(8) + "balcony 1 9 1 0; balcony 1 9 0 0;" + "wall 8 5;".repeat(10) + "ship 99 1 1; goes 1;");
        quay.days(1);
        quay.widen(9, 9);
        due("nothing on the quay", 3, () -> quay.game(8, 9, 9, 0));
        due("the first", 1, () -> quay.game(8, 9, 9, 1));
        // the wall over which they play may be one's own: it has its RENT in either way
        BalconyPort own = Check.of("balcony 1 1 1 0; balcony 1 1 0 0; wall 1 3; wall 1 3; ship 99 1 1; goes 1;");
        own.days(1);
        due("its own wall", 3, () -> own.game(0, 1, 0, 0));
        due("its own wall", 0, () -> own.game(0, 1, 0, 1));
    }

    private static void gameWhat() {
        CHECK.sentence("37: NoSuchElementException: also another what. IllegalArgumentException (behind that)");
        thrown("what -1", NO, x -> x.game(2, 3, 0, -1));
        thrown("what 2", NO, x -> x.game(2, 3, 0, 2));
        thrown("what 2, both are one", NO, x -> x.game(2, 2, 0, 2));
        thrown("what -1, one at home", NO, x -> x.game(0, 2, 0, -1));
        thrown("no such wall, both are one", NO, x -> x.game(2, 2, 2, 0));
        thrown("no such wall, one at home", NO, x -> x.game(0, 2, -1, 0));
        thrown("no such balcony", NO, x -> x.game(5, 0, 0, 0));
        thrown("no such balcony", NO, x -> x.game(0, 5, 0, 0));
        for (int what : FAR) {
            thrown("what " + what, NO, x -> x.game(2, 3, 0, what));
        }
    }

    private static void gameWho() {
        CHECK.sentence("37: IllegalArgumentException: both are one, one is neither on a WALL nor on THE QUAY");
        for (int b = 0; b < 5; b++) {
            for (int c = 0; c < 5; c++) {
                int one = b;
                int other = c;
                boolean plays = b != c && (b == 2 || b == 3) && (c == 2 || c == 3);
                if (plays) {
                    due("game of " + b + " and " + c, false, () -> Check.answer(() -> Refusal.past().game(one, other, 1, 0)).equals(BAD));
                } else {
                    thrown("game of " + b + " and " + c, BAD, x -> x.game(one, other, 1, 0));
                    thrown("game of " + b + " and " + c, BAD, x -> x.game(one, other, 0, 1));
                }
            }
        }
    }

    /** So many at sea, with eight days to go; then each hangs on a wall of rent 1. */
    private static BalconyPort atSea(int many) {
        BalconyPort x = Check.of("balcony 1 1 0 0;".repeat(many) + "wall 1 1;".repeat(many) + "ship 99 1 9; goes day = 0;");
        x.days(1);
        return x;
    }

    /** Who is struck in so many days, if all are at sea all the time: the document's draws, with longs. */
    private static Set<Integer> struck(int seed, int days, int many) {
        Set<Integer> struck = new HashSet<>();
        long state = seed & 0xffffffffL;
        for (int day = 0; day < days; day++) {
            state = (state * 1103515245L + 12345L) % 4294967296L;
            if (state / 65536 % 32768 % 6 == 0) {
                state = (state * 1103515245L + 12345L) % 4294967296L;
                struck.add((int) (state / 65536 % 32768 % many));
            }
        }
        return struck;
    }

    private static void stormDays() {
        CHECK.sentence("STORMS by a seed: n DAYS (0 to 60) from now on. 38: IllegalArgumentException (behind that): n");
        due("none", 1, () -> Refusal.past().storms(0, 0, 0));
        due("none", 1, () -> Refusal.past().storms(0, 0, 1));
        due("none", 22, () -> Refusal.past().storms(0, 0, 2));
        // goes on the 60th day, for a day: no storm finds it at sea
        BalconyPort late = Check.of("balcony 1 1 1 0; wall 1 2; ship 9 1 1; goes day = 59;");
        due("59 days", 0, () -> late.storms(5, 59, 1));
        due("60 days", 1, () -> late.storms(5, 60, 1));
        due("60 days", 3, () -> late.storms(5, 60, 2));
        for (int n : new int[] {-1, 61, Integer.MIN_VALUE, Integer.MAX_VALUE}) {
            for (int what = 0; what <= 2; what++) {
                int told = what;
                thrown("storms of " + n, BAD, x -> x.storms(0, n, told));
            }
        }
    }

    private static void stormWhat() {
        CHECK.sentence("38: NoSuchElementException: another what");
        thrown("what -1", NO, x -> x.storms(0, 0, -1));
        thrown("what 3", NO, x -> x.storms(0, 60, 3));
        thrown("what 3, 61 days", NO, x -> x.storms(0, 61, 3));
        thrown("what -1, -1 days", NO, x -> x.storms(0, -1, -1));
        for (int what : FAR) {
            thrown("what " + what, NO, x -> x.storms(0, 0, what));
        }
    }

    private static void stormSeeds() {
        CHECK.sentence("A seed becomes itself times 1103515245 and 12345 (an int that wraps); a DRAW of n is its bits 16 to 30 MOD n then");
        int[] seeds = {0, 1, -1, 2, 6, 11, 12345, -12345, 65535, 65536, 1 << 30, Integer.MIN_VALUE, Integer.MIN_VALUE + 1, Integer.MAX_VALUE};
        for (int many : new int[] {1, 2, 3, 7, 10}) {
            BalconyPort x = atSea(many);
            for (int seed : seeds) {
                for (int n : new int[] {1, 7, 8}) {
                    due("lost by " + seed + " of " + many + " in " + n, struck(seed, n, many).size(), () -> x.storms(seed, n, 0));
                }
                due("hang by " + seed, many - struck(seed, 8, many).size(), () -> x.storms(seed, 8, 1));
                due("money by " + seed, 2 * (many - struck(seed, 8, many).size()), () -> x.storms(seed, 9, 2));
            }
        }
        for (int seed = -150; seed < 150; seed++) {
            int told = seed;
            BalconyPort x = atSea(10);
            due("lost by " + seed, struck(seed, 8, 10).size(), () -> x.storms(told, 8, 0));
        }
    }

    private static void stormAheadOfEach() {
        CHECK.sentence("ahead of each a DRAW of 6: 0 a DRAW of BALCONIES: if that one is AT SEA, it is LOST");
        // seed 0 draws 0 ahead of the first day, and then the only one there is
        due("a storm", 1, () -> struck(0, 1, 1).size());
        due("at sea", 1, () -> atSea(1).storms(0, 1, 0));
        BalconyPort home = Check.of("balcony 1 1 0 0; ship 9 1 9; goes 1;");
        due("at home, ahead of the day on which it goes", 0, () -> home.storms(0, 1, 0));
        BalconyPort arrives = atSea(1);
        arrives.days(7);
        due("a day to go: ahead of that day it is at sea", 1, () -> arrives.storms(0, 1, 0));
        arrives.days(1);
        due("on a wall", 0, () -> arrives.storms(0, 1, 0));
        due("on a wall", 1, () -> arrives.storms(0, 1, 1));
        arrives.back(0);
        due("on its way home", 1, () -> arrives.storms(0, 1, 0));
        arrives.sweep(0);
        due("lost before", 1, () -> arrives.storms(0, 60, 0));
        BalconyPort quay = Check.of("balcony 1 1 0 0; ship 9 1 1; goes 1;");
        quay.days(1);
        due("on the quay", 0, () -> quay.storms(0, 1, 0));
        // all that hang at the end, and what all STREETS have together
        BalconyPort all = Check.of("balcony 1 1 1 0; balcony 1 1 1 1; balcony 1 1 1 2; balcony 1 1 1 3;" + "wall 1 0;".repeat(4) + "ship 99 1 1; goes 1;");
        due("all hang", 4, () -> all.storms(3, 60, 1));
        due("together", 240, () -> all.storms(3, 60, 2));
    }

    private static void stormWithout() {
        CHECK.sentence("(Without BALCONIES nothing is drawn.)");
        BalconyPort x = Check.of("wall 1 1;");
        for (int seed : new int[] {0, 1, Integer.MIN_VALUE, Integer.MAX_VALUE}) {
            due("lost", 0, () -> x.storms(seed, 60, 0));
            due("on walls", 0, () -> x.storms(seed, 60, 1));
            due("money", 0, () -> x.storms(seed, 60, 2));
        }
        due("61 days", BAD, () -> x.storms(0, 61, 0));
        due("what", NO, () -> x.storms(0, 0, 3));
    }

    private static void statusNotCounted() {
        CHECK.sentence("STATUS: how many calls were refused: 0 TEXTS with a FAULT, 1 ACTS, 2 what is SEEN");
        BalconyPort x = new BalconyPort();
        Refusal.On[] others = {BalconyPort::undo, BalconyPort::restore, y -> y.port(1), y -> y.port(-1), y -> y.count(19), y -> y.balcony(0, 0),
            y -> y.wall(0, 0), y -> y.street(4, 0), y -> y.pots(0, 10), y -> y.rent(0, 21), y -> y.back(0), y -> y.sweep(0), y -> y.widen(0, 0),
            y -> y.richest(61), y -> y.fullest(2), y -> y.cargo(2), y -> y.best(0), y -> y.wrong(3), y -> y.look(2), y -> y.storms(0, 61, 0)};
        for (Refusal.On call : others) {
            Check.answer(() -> call.answer(x));
        }
        due("texts", 0, () -> x.count(16));
        due("acts", 0, () -> x.count(17));
        due("seen", 0, () -> x.count(18));
        Check.port(x, "#");
        due("a text", "100", () -> "" + x.count(16) + x.count(17) + x.count(18));
        x.days(21);
        due("an act", "110", () -> "" + x.count(16) + x.count(17) + x.count(18));
        x.see(31, 0);
        due("seen", "111", () -> "" + x.count(16) + x.count(17) + x.count(18));
        x.forget();
        x.days(1);
        x.undo();
        Check.port(x, "");
        due("they stay", "111", () -> "" + x.count(16) + x.count(17) + x.count(18));
    }

    private static void imageKeeps() {
        CHECK.sentence("AN IMAGE keeps all that DAYS and ACTS change, ACTS that are kept, what is SEEN, STATUS");
        Refusal.due(CHECK, "image and restore at once", true, Refusal.NO_STATUS, x -> {
            x.image();
            return null;
        }, BalconyPort::restore);
        Refusal.due(CHECK, "all that can be changed, then restore", true, Refusal.NO_STATUS, x -> {
            x.image();
            return null;
        }, x -> {
            x.pots(0, 9);
            x.rent(0, 20);
            x.widen(0, 9);
            x.back(2);
            x.sweep(3);
            x.days(20);
            x.days(0);
            x.forget();
            x.see(9, 9);
            x.see(0, 0);
            return x.restore();
        });
        BalconyPort x = Refusal.past();
        x.image();
        Check.port(x, "x");
        x.feed(0, 0, 0, 0, 0);
        due("behind a fault", true, x::restore);
        due("status 0", 1, () -> x.count(16));
        due("the tape stays", 20, () -> x.count(15));
        due("the fault's place stays", 0, x::fault);
        due("what is seen", 1, () -> x.count(14));
        x.see(1, 2);
        x.see(1, 99);
        due("more is seen", 3, () -> x.count(14));
        due("not so", 0, () -> x.wrong(2));
        x.restore();
        due("what was seen", 1, () -> x.count(14));
        due("so", 1, () -> x.wrong(2));
        x.forget();
        x.restore();
        due("not forgotten", 1, () -> x.count(14));
    }

    private static void imageInPlace() {
        CHECK.sentence("39: AN IMAGE is kept, in place of another one. 40: It is as the IMAGE again: true");
        BalconyPort x = new BalconyPort();
        x.image();
        x.days(1);
        x.image();
        x.days(1);
        for (int i = 0; i < 3; i++) {
            due("the later one, however often", true, x::restore);
            due("day", 1, () -> x.count(5));
            due("kept", 1, () -> x.count(13));
            x.undo();
            x.days(9);
        }
        x.image();
        due("day", true, x::restore);
        due("day", 9, () -> x.count(5));
    }

    private static void imageOfFullActs() {
        CHECK.sentence("AN IMAGE keeps ACTS that are kept (at most 40)");
        for (int acts : new int[] {39, 40, 41, 55}) {
            BalconyPort x = Check.of("wall 1 0;");
            for (int i = 1; i <= acts; i++) {
                x.rent(0, i % 21);
            }
            x.image();
            for (int i = 0; i < 45; i++) {
                x.rent(0, 20);
            }
            due("restored", true, x::restore);
            int kept = Math.min(40, acts);
            due("kept", kept, () -> x.count(13));
            for (int left = kept - 1; left >= 0; left--) {
                int many = left;
                due("left", many, x::undo);
                due("rent", (acts - kept + left) % 21, () -> x.wall(0, 1));
            }
            due("none", -1, x::undo);
        }
    }

    private static void restoreNone() {
        CHECK.sentence("40: False: there is none");
        BalconyPort fresh = new BalconyPort();
        due("at first", false, fresh::restore);
        due("no status", 0, () -> fresh.count(16) + fresh.count(17) + fresh.count(18));
        BalconyPort x = Refusal.past();
        Check.port(x, Refusal.FIVE);
        x.days(3);
        due("gone with a new port", false, x::restore);
        due("nothing changes", 3, () -> x.count(5));
        due("nothing changes", 1, () -> x.count(13));
        x.image();
        due("there is one", true, x::restore);
        x.feed(0, 0, 0, 0, 0);
        due("a fault", 1, () -> x.port(20));
        due("it stays", true, x::restore);
        due("no such length", BAD, () -> x.port(1));
        due("it stays", true, x::restore);
        x.port(0);
        due("gone", false, x::restore);
    }
}
