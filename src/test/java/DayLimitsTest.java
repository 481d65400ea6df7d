/** The boundary cases that "==== 2." names, of a day and of acts, and those of promises 9 to 15. */
public final class DayLimitsTest {
    private static final Check CHECK = new Check();
    private static final int HOME = 0;
    private static final int SEA = 1;
    private static final int QUAY = 2;
    private static final int WALL = 3;
    private static final int LOST = 4;

    public static void main(String[] args) {
        atHomeAtFirst();
        sailingDays();
        moreThanNothing();
        withoutARule();
        hold();
        holdInOrder();
        ruleThen();
        voyage();
        goingBack();
        wideEnough();
        leastWidth();
        waits();
        fullHouse();
        earns();
        mostMoney();
        dayIsOneMore();
        daysMany();
        lastDay();
        actsKept();
        actsRefused();
        undoLastFirst();
        undoNone();
        potsMany();
        rentMuch();
        widenWide();
        widenedStays();
        backFrom();
        sweepFrom();
        leavesItsWall();
        lostForEver();
        CHECK.end("DayLimitsTest");
    }

    private static void due(String what, Object want, Check.Call call) {
        CHECK.due(what, want, call);
    }

    /** A refused act: STATUS 1 and nothing else. */
    private static void refused(String what, Object want, Refusal.On call) {
        Refusal.due(CHECK, what, want, Refusal.ACTS, call);
    }

    private static void place(BalconyPort x, int balcony, int want) {
        due("where " + balcony + " is on day " + x.count(5), want, () -> x.balcony(balcony, 4));
    }

    private static void atHomeAtFirst() {
        CHECK.sentence("It is AT HOME (0) at first");
        BalconyPort x = Check.of("balcony 1 1 0 0; balcony 2 2 2 2; wall 1 1; goes 1;");
        place(x, 0, HOME);
        place(x, 1, HOME);
        due("day", 0, () -> x.count(5));
    }

    private static void sailingDays() {
        CHECK.sentence("if the SHIP sails on it (DAY MOD how often it sails is 0)");
        for (int every = 1; every <= 9; every++) {
            BalconyPort first = Check.of("balcony 1 1 0 0; ship 1 " + every + " 9; goes 1;");
            first.days(1);
            place(first, 0, SEA);
            BalconyPort x = Check.of("balcony 1 1 0 0; ship 1 " + every + " 9; goes day;");
            x.days(every);
            place(x, 0, HOME);
            x.days(1);
            place(x, 0, SEA);
            // not on the second sailing, but on the third one
            BalconyPort y = Check.of("balcony 1 1 0 0; ship 1 " + every + " 9; goes " + every + " < day;");
            y.days(2 * every);
            place(y, 0, HOME);
            y.days(1);
            place(y, 0, SEA);
        }
    }

    private static void moreThanNothing() {
        CHECK.sentence("is taken, if GOES gives more than 0 for it then");
        String[] rules = {"0-9999", "0-1", "0", "1", "9999"};
        for (int i = 0; i < rules.length; i++) {
            BalconyPort x = Check.of("balcony 1 1 0 0; ship 1 1 9; times 0; goes " + rules[i] + ";");
            int goes = i >= 3 ? 1 : 0;
            due("goes " + rules[i], goes, () -> x.balcony(0, 7));
            x.days(1);
            place(x, 0, goes == 1 ? SEA : HOME);
        }
        // a rule that gives nothing goes ahead of good TIMES, one that gives something of bad ones
        BalconyPort x = Check.of("balcony 1 1 0 0; times 9; goes 1;");
        due("by the rule", 1, () -> x.sails(0));
    }

    private static void withoutARule() {
        CHECK.sentence("(without it, if TIMES is less than 5)");
        for (int times = 0; times <= 9; times++) {
            BalconyPort x = Check.of("balcony 1 1 0 0; ship 1 1 9; times " + times + ";");
            due("goes by " + times, times < 5 ? 1 : 0, () -> x.balcony(0, 7));
            x.days(1);
            place(x, 0, times < 5 ? SEA : HOME);
        }
        BalconyPort none = Check.of("balcony 1 1 0 0; ship 1 1 9;");
        none.days(20);
        place(none, 0, HOME);
    }

    private static void hold() {
        CHECK.sentence("its WEIGHT is no more than what is left of HOLD");
        int[][] some = {{6, 4, 10}, {1, 0, 1}, {20, 9, 29}, {20, 0, 20}, {1, 9, 10}};
        for (int[] one : some) {
            String balcony = "balcony " + one[0] + " 1 " + one[1] + " 0;";
            due("as heavy", 1, () -> Check.of(balcony + "goes 1; ship " + one[2] + " 1 1;").sails(0));
            due("lighter", 1, () -> Check.of(balcony + "goes 1; ship " + (one[2] + 1) + " 1 1;").sails(0));
            if (one[2] > 1) {
                due("too heavy", -1, () -> Check.of(balcony + "goes 1; ship " + (one[2] - 1) + " 1 1;").sails(0));
            }
        }
        // pots that come later weigh, too
        BalconyPort x = Check.of("balcony 6 1 4 0; ship 10 1 9; goes 1;");
        x.pots(0, 5);
        x.days(1);
        place(x, 0, HOME);
        x.pots(0, 4);
        x.days(1);
        place(x, 0, SEA);
    }

    private static void holdInOrder() {
        CHECK.sentence("of those AT HOME each, in order of BALCONIES, is taken, if .. its WEIGHT is no more than what is left of HOLD");
        String four = "balcony 20 1 9 0; balcony 20 1 9 0; balcony 20 1 9 0; balcony 12 1 0 0; goes 1; ship ";
        BalconyPort full = Check.of(four + "99 3 9;");
        full.days(1);
        due("29 + 29 + 29 + 12 of 99", 15, () -> full.count(8));
        BalconyPort less = Check.of(four + "98 3 9;");
        less.days(1);
        due("of 98", 7, () -> less.count(8));
        less.days(2);
        due("not on days between", 7, () -> less.count(8));
        less.days(1);
        due("on the next sailing the whole HOLD is left", 15, () -> less.count(8));
        // the second one is too heavy for what is left, the third one is not
        BalconyPort behind = Check.of("balcony 6 1 0 0; balcony 5 1 0 0; balcony 3 1 1 0; balcony 1 1 0 0; ship 10 5 9; goes 1;");
        behind.days(1);
        due("6 and 4", 5, () -> behind.count(8));
        behind.days(5);
        due("then the others", 15, () -> behind.count(8));
    }

    private static void ruleThen() {
        CHECK.sentence("if GOES gives more than 0 for it then");
        // those taken just now are gone for the next ones, not for those ahead of them
        BalconyPort up = Check.of("balcony 2 1 0 0; balcony 1 1 0 0; balcony 1 1 0 0; ship 9 1 9; goes iron = 2 or beside;");
        up.days(1);
        due("all at once", 7, () -> up.count(8));
        BalconyPort down = Check.of("balcony 1 1 0 0; balcony 1 1 0 0; balcony 2 1 0 0; ship 9 1 9; goes iron = 2 or beside;");
        down.days(1);
        due("the last one first", 4, () -> down.count(8));
        down.days(1);
        due("then the one beside it", 6, () -> down.count(8));
        down.days(1);
        due("then all", 7, () -> down.count(8));
    }

    private static void voyage() {
        CHECK.sentence("each that is AT SEA has a DAY less to go (those taken now, too): with none left it is on THE QUAY");
        for (int voyage = 1; voyage <= 9; voyage++) {
            BalconyPort x = Check.of("balcony 1 1 0 0; ship 1 9 " + voyage + "; goes 1;");
            for (int day = 1; day < voyage; day++) {
                x.days(1);
                place(x, 0, SEA);
                int left = voyage - day;
                due("to go", left, () -> x.balcony(0, 6));
            }
            x.days(1);
            place(x, 0, QUAY);
            due("none to go", 0, () -> x.balcony(0, 6));
        }
    }

    private static void goingBack() {
        CHECK.sentence("(one that goes back: AT HOME)");
        for (int voyage = 1; voyage <= 9; voyage++) {
            // it may go on DAY 0 and from DAY 2 * voyage - 1 on, on which it comes home, but behind the sailing
            BalconyPort x = Check.of("balcony 1 1 0 0; wall 1 1; ship 1 1 " + voyage + "; goes day = 0 or not day < " + (2 * voyage - 1) + ";");
            x.days(voyage);
            place(x, 0, WALL);
            x.back(0);
            int whole = voyage;
            due("to go", whole, () -> x.balcony(0, 6));
            due("the wall is free", 1, () -> x.vacant(0));
            for (int day = 1; day < voyage; day++) {
                x.days(1);
                place(x, 0, SEA);
            }
            x.days(1);
            place(x, 0, HOME);
            due("sails again", 1, () -> x.sails(0));
            x.days(1);
            place(x, 0, voyage == 1 ? WALL : SEA);
        }
    }

    private static void wideEnough() {
        CHECK.sentence("each on THE QUAY is put on the WALL without one that is of its WIDTH or more");
        for (int width = 1; width <= 9; width++) {
            BalconyPort same = Check.of("balcony 1 " + width + " 0 0; wall " + width + " 0; ship 1 1 1; goes 1;");
            same.days(1);
            place(same, 0, WALL);
            if (width > 1) {
                BalconyPort less = Check.of("balcony 1 " + width + " 0 0; wall " + (width - 1) + " 0; ship 1 1 1; goes 1;");
                less.days(1);
                place(less, 0, QUAY);
            }
        }
        BalconyPort one = Check.of("balcony 1 1 0 0; balcony 1 1 0 0; wall 9 0; ship 9 1 1; goes 1;");
        one.days(20);
        place(one, 0, WALL);
        place(one, 1, QUAY);
        BalconyPort none = Check.of("balcony 1 1 0 0; ship 9 1 1; goes 1;");
        none.days(1);
        place(none, 0, QUAY);
    }

    private static void leastWidth() {
        CHECK.sentence("the least such WIDTH, of like ones the least");
        BalconyPort x = Check.of("balcony 1 4 0 0;".repeat(6) + "wall 9 0; wall 3 0; wall 6 0; wall 4 0; wall 6 0; wall 4 0; wall 9 0; ship 9 1 1; goes 1;");
        x.days(1);
        int[] want = {3, 5, 2, 4, 0, 6};
        for (int b = 0; b < 6; b++) {
            int balcony = b;
            due("wall of " + b, want[b], () -> x.balcony(balcony, 5));
            due("balcony of " + want[b], balcony, () -> x.wall(want[balcony], 2));
        }
        due("too narrow", -1, () -> x.wall(1, 2));
        // BALCONY by BALCONY: the first one takes the wall that the second one would need
        BalconyPort y = Check.of("balcony 1 1 0 0; balcony 1 5 0 0; wall 5 0; wall 6 0; wall 1 0; ship 9 1 1; goes 1;");
        y.days(1);
        due("the first one", 2, () -> y.balcony(0, 5));
        due("the second one", 0, () -> y.balcony(1, 5));
        BalconyPort z = Check.of("balcony 1 1 0 0; balcony 1 5 0 0; wall 5 0; ship 9 1 1; goes 1;");
        z.days(1);
        due("the first one", 0, () -> z.balcony(0, 5));
        due("the second one", -1, () -> z.balcony(1, 5));
    }

    private static void waits() {
        CHECK.sentence("none: it waits");
        BalconyPort x = Check.of("balcony 1 1 0 0; balcony 1 1 0 0; balcony 1 1 0 0; wall 1 5; ship 9 1 1; goes day = 0;");
        x.days(20);
        due("two wait", 6, () -> x.count(9));
        due("it earns alone", 100, () -> x.street(0, 0));
        x.sweep(0);
        due("not at once", 6, () -> x.count(9));
        x.days(1);
        due("with the next day", 0, () -> x.balcony(1, 5));
        x.back(1);
        x.days(1);
        due("then the last one", 0, () -> x.balcony(2, 5));
        due("and back home", 2, () -> x.count(7));
    }

    private static void fullHouse() {
        CHECK.sentence("BALCONIES 0, 1 .. (at most 10), WALLS over there 0, 1 .. (at most 10)");
        // all but the last one go on DAY 0, that a day later, and it is too wide; the first one fits one wall best
        for (int fits = 0; fits < 10; fits++) {
            StringBuilder text = new StringBuilder("balcony 1 2 5 0;" + "balcony 1 3 0 1;".repeat(8) + "balcony 2 9 4 2; ship 99 1 2; goes iron = day + 1;");
            for (int w = 0; w < 10; w++) {
                text.append(w == fits ? "wall 2 1;" : "wall 3 1;");
            }
            BalconyPort x = Check.of(text.toString());
            x.days(1);
            due("nine at sea", 511, () -> x.count(8));
            x.days(1);
            due("nine on walls", 511, () -> x.count(10));
            due("the last one at sea", 512, () -> x.count(8));
            x.days(1);
            due("the last one on the quay", 512, () -> x.count(9));
            x.days(1);
            due("it waits", 512, () -> x.count(9));
            int best = fits;
            due("the first one's wall", best, () -> x.balcony(0, 5));
            due("the first one's pots", 5, () -> x.balcony(0, 2));
            due("the first one's money", 18, () -> x.street(0, 0));
            due("the others' money", 24, () -> x.street(1, 0));
            due("the last one's money", 0, () -> x.street(2, 0));
            due("nine on walls", 511, () -> x.count(10));
        }
    }

    private static void earns() {
        CHECK.sentence("Then each on a WALL earns its RENT, and 1 for each of its POTS");
        int[][] some = {{0, 0}, {1, 0}, {0, 1}, {20, 9}};
        for (int[] one : some) {
            int sum = one[0] + one[1];
            BalconyPort x = Check.of("balcony 1 1 " + one[1] + " 2; wall 1 " + one[0] + "; ship 99 1 2; goes 1;");
            x.days(1);
            due("at sea", 0, () -> x.street(2, 0));
            x.days(1);
            due("on the day on which it hangs", sum, () -> x.street(2, 0));
            x.days(1);
            due("a day more", 2 * sum, () -> x.street(2, 0));
            due("another street", 0, () -> x.street(1, 0) + x.street(0, 0) + x.street(3, 0));
        }
        BalconyPort quay = Check.of("balcony 1 2 9 2; wall 1 20; ship 99 1 1; goes 1;");
        quay.days(20);
        due("on the quay", 0, () -> quay.street(2, 0));
    }

    /** A street of ten that earned 289 a day on 346 days: 99994; then nine are swept off and one earns what is told. */
    private static BalconyPort rich(int rent) {
        BalconyPort x = Check.of("balcony 1 1 9 3;".repeat(9) + "balcony 1 1 8 3;" + "wall 1 20;".repeat(10) + "ship 99 1 1; goes 1;");
        for (int i = 0; i < 17; i++) {
            x.days(20);
        }
        x.days(6);
        for (int b = 1; b < 10; b++) {
            x.sweep(b);
        }
        x.pots(0, 0);
        x.rent(0, rent);
        return x;
    }

    private static void mostMoney() {
        CHECK.sentence("MONEY (99999 at most)");
        int[][] some = {{0, 99994}, {4, 99998}, {5, 99999}, {6, 99999}, {20, 99999}};
        for (int[] one : some) {
            BalconyPort x = rich(one[0]);
            due("before", 99994, () -> x.street(3, 0));
            due("ahead", one[1] - 99994, () -> x.earned(3, 1));
            due("storms", one[1], () -> x.storms(0, 1, 2));
            x.days(1);
            due("with " + one[0], one[1], () -> x.street(3, 0));
            x.days(20);
            due("then", one[0] == 0 ? 99994 : 99999, () -> x.street(3, 0));
            due("nothing more", 0, () -> x.earned(3, 60));
            due("richest", 3, () -> x.richest(60));
            x.undo();
            due("undone", one[1], () -> x.street(3, 0));
        }
    }

    private static void dayIsOneMore() {
        CHECK.sentence("The DAY is one more then");
        BalconyPort x = new BalconyPort();
        due("days(1)", 1, () -> x.days(1));
        due("the day", 1, () -> x.count(5));
        due("days(1)", 2, () -> x.days(1));
        // the rule's day is that which goes by, not the one that comes
        BalconyPort y = Check.of("balcony 1 1 0 0; ship 1 1 9; goes day = 1;");
        y.days(1);
        place(y, 0, HOME);
        due("now it would", 1, () -> y.balcony(0, 7));
        y.days(1);
        place(y, 0, SEA);
    }

    private static void daysMany() {
        CHECK.sentence("9: NONE (STATUS 1): not 1 to 20");
        for (int many : new int[] {1, 2, 19, 20}) {
            BalconyPort x = Refusal.past();
            due("days(" + many + ")", 4 + many, () -> x.days(many));
            due("kept", 4, () -> x.count(13));
            due("not refused", 1, () -> x.count(17));
        }
        for (int many : new int[] {0, -1, 21, 22, 999, Integer.MIN_VALUE, Integer.MAX_VALUE, Integer.MAX_VALUE - 3}) {
            refused("days(" + many + ")", -1, x -> x.days(many));
        }
        // twenty at once are twenty times one
        BalconyPort once = Check.of(Refusal.FIVE);
        BalconyPort each = Check.of(Refusal.FIVE);
        once.days(20);
        for (int i = 0; i < 20; i++) {
            each.days(1);
        }
        for (int b = 0; b < 5; b++) {
            int balcony = b;
            due("where " + b, each.balcony(b, 4), () -> once.balcony(balcony, 4));
        }
        due("money", each.street(1, 0), () -> once.street(1, 0));
    }

    private static BalconyPort onDay(int day) {
        BalconyPort x = Check.of("balcony 1 1 1 0; wall 1 2; ship 9 1 1; goes not day < 999;");
        for (int at = 0; at < day; at += Math.min(20, day - at)) {
            x.days(Math.min(20, day - at));
        }
        return x;
    }

    private static void lastDay() {
        CHECK.sentence("9: NONE (STATUS 1): it would be above 999");
        due("999 from 979", 999, () -> onDay(979).days(20));
        due("999 from 998", 999, () -> onDay(998).days(1));
        int[][] beyond = {{980, 20}, {981, 19}, {998, 2}, {999, 1}, {999, 20}};
        for (int[] one : beyond) {
            BalconyPort x = onDay(one[0]);
            int kept = x.count(13);
            due("beyond", -1, () -> x.days(one[1]));
            due("status 1", 1, () -> x.count(17));
            due("the day stays", one[0], () -> x.count(5));
            due("none kept", kept, () -> x.count(13));
        }
        // what would be, if days went by, can be asked all the same
        BalconyPort last = onDay(999);
        due("sails", 1, () -> last.sails(0));
        due("earned", 180, () -> last.earned(0, 60));
        due("where", WALL, () -> last.where(0, 60, 0));
        due("pots on the last day", 1, () -> last.pots(0, 2));
        due("undo", 39, last::undo);
    }

    private static void actsKept() {
        CHECK.sentence("ACTS (at most 40 are kept, the latest ones)");
        for (int acts : new int[] {0, 1, 39, 40, 41, 42, 79, 80, 81, 100}) {
            BalconyPort x = Check.of("balcony 1 1 0 0; wall 1 0;");
            for (int i = 1; i <= acts; i++) {
                // rents tell which acts are undone: that of act i is i MOD 21
                x.rent(0, i % 21);
            }
            int kept = Math.min(40, acts);
            due("kept of " + acts, kept, () -> x.count(13));
            for (int left = kept - 1; left >= 0; left--) {
                int wanted = left;
                due("left of " + acts, wanted, x::undo);
                due("rent", (acts - kept + left) % 21, () -> x.wall(0, 1));
            }
            due("none left", -1, x::undo);
            due("the first ones stay", (acts - kept) % 21, () -> x.wall(0, 1));
            due("kept", 0, () -> x.count(13));
        }
        everyKindIsKept();
    }

    private static void everyKindIsKept() {
        BalconyPort x = Refusal.past();
        Refusal.On[] acts = {y -> y.days(1), y -> y.pots(0, 1), y -> y.rent(0, 7), y -> y.widen(0, 1), y -> y.back(2), y -> y.sweep(0)};
        for (int i = 0; i < acts.length; i++) {
            acts[i].answer(x);
            int wanted = 4 + i;
            due("kept, though some change nothing", wanted, () -> x.count(13));
        }
        due("none refused", 1, () -> x.count(17));
    }

    private static void actsRefused() {
        CHECK.sentence("STATUS: how many calls were refused: 1 ACTS");
        BalconyPort x = Refusal.past();
        Refusal.On[] acts = {y -> y.days(0), y -> y.pots(0, 10), y -> y.rent(0, 21), y -> y.widen(0, 0), y -> y.back(0), y -> y.sweep(4)};
        for (int i = 0; i < acts.length; i++) {
            acts[i].answer(x);
            int wanted = 2 + i;
            due("refused", wanted, () -> x.count(17));
        }
        due("none kept", 3, () -> x.count(13));
        due("no text", 1, () -> x.count(16));
        due("nothing seen", 1, () -> x.count(18));
        due("the last one that wasn't refused is undone", 2, x::undo);
        due("day", 2, () -> x.count(5));
        due("status stays", 7, () -> x.count(17));
        // with 40 kept, a refused one puts none of them out
        BalconyPort full = Check.of("balcony 1 1 0 0; wall 1 0;");
        for (int i = 1; i <= 40; i++) {
            full.rent(0, i % 21);
        }
        full.rent(0, 21);
        full.days(0);
        full.back(0);
        due("kept", 40, () -> full.count(13));
        for (int left = 39; left >= 0; left--) {
            int wanted = left;
            due("left", wanted, full::undo);
        }
        due("as at first", 0, () -> full.wall(0, 1));
    }

    private static void undoLastFirst() {
        CHECK.sentence("They are UNDONE, the last one first");
        BalconyPort x = Refusal.past();
        x.pots(3, 9);
        x.widen(0, 5);
        x.rent(0, 20);
        x.back(2);
        x.sweep(3);
        due("the wall is free", -1, () -> x.wall(0, 2));
        due("sweep undone", 7, x::undo);
        due("it hangs again", 0, () -> x.balcony(3, 5));
        due("it hangs again", 3, () -> x.wall(0, 2));
        due("still at sea", SEA, () -> x.balcony(2, 4));
        due("back undone", 6, x::undo);
        due("on the quay again", QUAY, () -> x.balcony(2, 4));
        due("none to go", 0, () -> x.balcony(2, 6));
        due("rent", 20, () -> x.wall(0, 1));
        due("rent undone", 5, x::undo);
        due("rent", 7, () -> x.wall(0, 1));
        due("width", 5, () -> x.wall(0, 0));
        due("widen undone", 4, x::undo);
        due("width", 1, () -> x.wall(0, 0));
        due("pots", 9, () -> x.balcony(3, 2));
        due("pots undone", 3, x::undo);
        due("pots", 4, () -> x.balcony(3, 2));
        due("day", 4, () -> x.count(5));
        due("days undone", 2, x::undo);
        due("day", 2, () -> x.count(5));
        due("money", 0, () -> x.street(1, 0));
        due("to go", 1, () -> x.balcony(3, 6));
        due("days undone", 1, x::undo);
        due("lost", 16, () -> x.count(11));
        due("sweep undone", 0, x::undo);
        due("all at home", 31, () -> x.count(7));
        due("none", -1, x::undo);
        // one that goes back is still on its way home when days behind that are undone
        BalconyPort y = Check.of("balcony 1 1 0 0; ship 1 1 3; goes day = 0;");
        y.days(3);
        y.back(0);
        y.days(2);
        y.undo();
        due("to go", 3, () -> y.balcony(0, 6));
        due("home in three days", HOME, () -> y.where(0, 3, 0));
        y.undo();
        due("on the quay", QUAY, () -> y.where(0, 3, 0));
    }

    private static void undoNone() {
        CHECK.sentence("15: NONE: there is none");
        Refusal.due(CHECK, "undo without acts", -1, Refusal.NO_STATUS, x -> {
            x.undo();
            x.undo();
            return x.undo();
        }, BalconyPort::undo);
        BalconyPort x = new BalconyPort();
        due("a new object", -1, x::undo);
        due("no status", 0, () -> x.count(16) + x.count(17) + x.count(18));
        x.days(1);
        due("one", 0, x::undo);
        due("none", -1, x::undo);
    }

    private static void potsMany() {
        CHECK.sentence("10: POTS become others: as they were. NONE (STATUS 1): not 0 to 9");
        for (int b = 0; b < 5; b++) {
            int balcony = b;
            BalconyPort x = Refusal.past();
            due("pots 0 of " + b, b + 1, () -> x.pots(balcony, 0));
            due("pots 9 of " + b, 0, () -> x.pots(balcony, 9));
            due("the same again", 9, () -> x.pots(balcony, 9));
            due("they are", 9, () -> x.balcony(balcony, 2));
            refused("pots -1 of " + b, -1, y -> y.pots(balcony, -1));
            refused("pots 10 of " + b, -1, y -> y.pots(balcony, 10));
        }
        refused("pots", -1, x -> x.pots(0, Integer.MIN_VALUE));
        refused("pots", -1, x -> x.pots(0, Integer.MAX_VALUE));
    }

    private static void rentMuch() {
        CHECK.sentence("11: RENT becomes another: as it was. NONE (STATUS 1): not 0 to 20");
        for (int w = 0; w < 2; w++) {
            int wall = w;
            BalconyPort x = Refusal.past();
            due("rent 0", w == 0 ? 7 : 2, () -> x.rent(wall, 0));
            due("rent 20", 0, () -> x.rent(wall, 20));
            due("the same again", 20, () -> x.rent(wall, 20));
            due("it is", 20, () -> x.wall(wall, 1));
            refused("rent -1", -1, y -> y.rent(wall, -1));
            refused("rent 21", -1, y -> y.rent(wall, 21));
        }
        refused("rent", -1, x -> x.rent(0, Integer.MIN_VALUE));
        refused("rent", -1, x -> x.rent(0, Integer.MAX_VALUE));
    }

    private static void widenWide() {
        CHECK.sentence("14: WIDENED: as it was. NONE (STATUS 1): not 1 to 9");
        for (int w = 0; w < 2; w++) {
            int wall = w;
            BalconyPort x = Refusal.past();
            due("width 9", w == 0 ? 1 : 4, () -> x.widen(wall, 9));
            due("width 1", 9, () -> x.widen(wall, 1));
            due("the same again", 1, () -> x.widen(wall, 1));
            due("it is", 1, () -> x.wall(wall, 0));
            refused("width 0", -1, y -> y.widen(wall, 0));
            refused("width 10", -1, y -> y.widen(wall, 10));
        }
        refused("width", -1, x -> x.widen(0, -1));
        refused("width", -1, x -> x.widen(0, Integer.MIN_VALUE));
        refused("width", -1, x -> x.widen(0, Integer.MAX_VALUE));
    }

    private static void widenedStays() {
        CHECK.sentence("a WALL is WIDENED (1 to 9 as WIDTH: it stays on it that hangs there)");
        BalconyPort x = Check.of("balcony 1 5 0 0; wall 5 3; ship 9 1 1; goes 1;");
        x.days(1);
        x.widen(0, 1);
        due("it stays", 0, () -> x.balcony(0, 5));
        x.days(20);
        due("it stays", 0, () -> x.balcony(0, 5));
        due("and earns", 63, () -> x.street(0, 0));
        x.back(0);
        x.days(3);
        due("too narrow now", QUAY, () -> x.balcony(0, 4));
        x.widen(0, 4);
        x.days(1);
        due("too narrow still", QUAY, () -> x.balcony(0, 4));
        x.widen(0, 5);
        x.days(1);
        due("wide enough", WALL, () -> x.balcony(0, 4));
    }

    private static void backFrom() {
        CHECK.sentence("12: Goes BACK: true. False (STATUS 1): neither on a WALL nor on THE QUAY");
        for (int place : new int[] {HOME, SEA, LOST}) {
            refused("back from " + place, false, x -> x.back(place));
        }
        for (int place : new int[] {QUAY, WALL}) {
            BalconyPort x = Refusal.past();
            due("back from " + place, true, () -> x.back(place));
            due("at sea", SEA, () -> x.balcony(place, 4));
            due("to go", 3, () -> x.balcony(place, 6));
            due("no wall", -1, () -> x.balcony(place, 5));
            due("the wall's balcony", place == WALL ? -1 : 3, () -> x.wall(0, 2));
            due("kept", 4, () -> x.count(13));
            due("again", false, () -> x.back(place));
            due("refused", 2, () -> x.count(17));
            due("still at sea", SEA, () -> x.where(place, 2, 0));
            due("home", HOME, () -> x.where(place, 3, 0));
        }
    }

    private static void sweepFrom() {
        CHECK.sentence("13: SWEPT OFF: true. False (STATUS 1): LOST already");
        refused("sweep from " + LOST, false, x -> x.sweep(LOST));
        for (int place : new int[] {HOME, SEA, QUAY, WALL}) {
            BalconyPort x = Refusal.past();
            due("sweep from " + place, true, () -> x.sweep(place));
            due("lost", LOST, () -> x.balcony(place, 4));
            due("lost", 16 | 1 << place, () -> x.count(11));
            due("none to go", 0, () -> x.balcony(place, 6));
            due("no wall", -1, () -> x.balcony(place, 5));
            due("vacant", place == WALL ? 3 : 2, () -> x.vacant(0));
            due("kept", 4, () -> x.count(13));
            due("again", false, () -> x.sweep(place));
            due("refused", 2, () -> x.count(17));
        }
    }

    private static void leavesItsWall() {
        CHECK.sentence("one on a WALL goes BACK; one that isn't LOST is SWEPT OFF: the WALL is without one then");
        for (int b = 0; b < 10; b++) {
            int balcony = b;
            for (Refusal.On act : new Refusal.On[] {x -> x.back(balcony), x -> x.sweep(balcony)}) {
                BalconyPort x = Check.of("balcony 1 1 0 0;".repeat(10) + "wall 1 1;".repeat(10) + "ship 99 1 1; goes day = 0;");
                x.days(1);
                due("it hangs", balcony, () -> x.wall(balcony, 2));
                due("it goes", true, () -> act.answer(x));
                due("its wall has none", -1, () -> x.wall(balcony, 2));
                due("only that one is free", 1 << balcony, () -> x.vacant(0));
                x.undo();
                due("none is free", 0, () -> x.vacant(0));
                due("it hangs again", balcony, () -> x.wall(balcony, 2));
            }
        }
    }

    private static void lostForEver() {
        CHECK.sentence("(LOST for ever)");
        BalconyPort x = Refusal.past();
        for (int b = 0; b < 4; b++) {
            x.sweep(b);
        }
        due("all", 31, () -> x.count(11));
        x.days(20);
        due("all", 31, () -> x.count(11));
        due("no money", 22, () -> x.street(1, 0));
        for (int b = 0; b < 5; b++) {
            int balcony = b;
            due("in 60 days", LOST, () -> x.where(balcony, 60, 0));
            due("not at home", 0, () -> x.sails(balcony));
            due("never hangs", -1, () -> x.hangs(balcony));
        }
    }
}
