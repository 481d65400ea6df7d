/** The boundary cases that "==== 3." names, of what would be, and those of promises 16 to 32. */
public final class AheadLimitsTest {
    private static final Check CHECK = new Check();
    private static final String NO = "NoSuchElementException";
    private static final String BAD = "IllegalArgumentException";
    private static final int[] FAR = {Integer.MIN_VALUE, -2, 100, Integer.MAX_VALUE};

    public static void main(String[] args) {
        whereDays();
        whereWhat();
        sailsDays();
        sailsNot();
        hangsDays();
        earnedDays();
        emptyDays();
        followsDays();
        followsOthers();
        parted();
        richestDays();
        richestOfLikeOnes();
        waitingDays();
        vacantDays();
        fullestDays();
        fullestOfLikeOnes();
        fullestWhat();
        mostPotsHold();
        mostPotsNoLater();
        mostPotsNone();
        shipsNone();
        shipsFewest();
        cargoHold();
        cargoOfLikeOnes();
        cargoWhat();
        bestNone();
        bestFirstRow();
        wideningFewest();
        wideningNone();
        asBefore();
        homesick();
        nothingChanges();
        CHECK.end("AheadLimitsTest");
    }

    private static void due(String what, Object want, Check.Call call) {
        CHECK.due(what, want, call);
    }

    private static void thrown(String what, String want, Refusal.On call) {
        Refusal.due(CHECK, what, want, Refusal.NO_STATUS, call);
    }

    /** One (of iron 1) that goes on the day told, by a ship that sails each day for so many days, to a wall of rent 5. */
    private static BalconyPort going(int day, int voyage) {
        return Check.of("balcony 1 1 2 1; wall 1 5; ship 11 1 " + voyage + "; goes day = " + day + ";");
    }

    private static void whereDays() {
        CHECK.sentence("WHERE a BALCONY is in so many DAYS (0 to 60); on which WALL");
        due("now", 0, () -> going(0, 1).where(0, 0, 0));
        due("now", -1, () -> going(0, 1).where(0, 0, 1));
        due("in a day", 3, () -> going(0, 1).where(0, 1, 0));
        due("in 59", 0, () -> going(59, 1).where(0, 59, 0));
        due("in 60", 3, () -> going(59, 1).where(0, 60, 0));
        due("in 60", 0, () -> going(59, 1).where(0, 60, 1));
        due("in 59", -1, () -> going(59, 1).where(0, 59, 1));
        due("not yet in 60", 0, () -> going(60, 1).where(0, 60, 0));
        BalconyPort x = Refusal.past();
        for (int place = 0; place <= 4; place++) {
            int balcony = place;
            due("now", balcony, () -> x.where(balcony, 0, 0));
            due("the wall now", balcony == 3 ? 0 : -1, () -> x.where(balcony, 0, 1));
        }
        for (int days : new int[] {-1, 61, Integer.MIN_VALUE, Integer.MAX_VALUE}) {
            thrown("where in " + days, BAD, y -> y.where(0, days, 0));
            thrown("where in " + days, BAD, y -> y.where(4, days, 1));
        }
    }

    private static void whereWhat() {
        CHECK.sentence("16: NoSuchElementException: also another what. IllegalArgumentException (behind that): not 0 to 60");
        thrown("what -1", NO, x -> x.where(0, 0, -1));
        thrown("what 2", NO, x -> x.where(0, 60, 2));
        thrown("what 2 in 61", NO, x -> x.where(0, 61, 2));
        thrown("what -1 in -1", NO, x -> x.where(0, -1, -1));
        for (int what : FAR) {
            thrown("what " + what, NO, x -> x.where(0, 0, what));
        }
    }

    private static void sailsDays() {
        CHECK.sentence("SAILS: in how many DAYS (1 to 60) one is first AT SEA, or farther; none");
        for (int voyage : new int[] {1, 2, 9}) {
            due("in a day", 1, () -> going(0, voyage).sails(0));
            due("in 59", 59, () -> going(58, voyage).sails(0));
            due("in 60", 60, () -> going(59, voyage).sails(0));
            due("too late", -1, () -> going(60, voyage).sails(0));
            due("never", -1, () -> going(9999, voyage).sails(0));
        }
        BalconyPort x = going(60, 1);
        x.days(1);
        due("from now on", 60, () -> x.sails(0));
        // the first of two times: it has gone by the time at which it could go again
        BalconyPort twice = Check.of("balcony 1 1 0 0; ship 1 1 1; goes day = 3 or day = 9;");
        due("first", 4, () -> twice.sails(0));
    }

    private static void sailsNot() {
        CHECK.sentence("(0: it isn't AT HOME)");
        BalconyPort x = Refusal.past();
        due("at home, it goes on DAY 19", 16, () -> x.sails(0));
        for (int place = 1; place <= 4; place++) {
            int balcony = place;
            due("from " + place, 0, () -> x.sails(balcony));
        }
        x.back(2);
        due("on its way home", 0, () -> x.sails(2));
    }

    private static void hangsDays() {
        CHECK.sentence("HANGS: in how many DAYS (0 to 60) one is first on a WALL; none");
        BalconyPort x = Refusal.past();
        due("at home, the one at sea takes the last wall", -1, () -> x.hangs(0));
        due("at sea", 2, () -> x.hangs(1));
        due("on the quay", -1, () -> x.hangs(2));
        due("now", 0, () -> x.hangs(3));
        due("lost", -1, () -> x.hangs(4));
        due("in a day", 1, () -> going(0, 1).hangs(0));
        due("in 60", 60, () -> going(59, 1).hangs(0));
        due("too late", -1, () -> going(60, 1).hangs(0));
        due("in 60", 60, () -> going(51, 9).hangs(0));
        due("too late", -1, () -> going(52, 9).hangs(0));
        x.widen(1, 9);
        due("from the quay, ahead of the one at sea", 1, () -> x.hangs(2));
        due("so that has none", -1, () -> x.hangs(1));
    }

    private static void earnedDays() {
        CHECK.sentence("EARNED by a STREET in so many DAYS (0 to 60)");
        due("in none", 0, () -> going(0, 1).earned(1, 0));
        due("in a day", 7, () -> going(0, 1).earned(1, 1));
        due("in 60", 420, () -> going(0, 1).earned(1, 60));
        due("in 59", 0, () -> going(59, 1).earned(1, 59));
        due("on the last of 60", 7, () -> going(59, 1).earned(1, 60));
        due("not yet", 0, () -> going(60, 1).earned(1, 60));
        due("another street", 0, () -> going(0, 1).earned(0, 60));
        BalconyPort x = going(0, 1);
        x.days(20);
        due("what it has doesn't count", 0, () -> x.earned(1, 0));
        due("what it has doesn't count", 7, () -> x.earned(1, 1));
        for (int days : new int[] {-1, 61, Integer.MIN_VALUE, Integer.MAX_VALUE}) {
            thrown("earned in " + days, BAD, y -> y.earned(1, days));
            thrown("earned in " + days, BAD, y -> y.earned(3, days));
        }
    }

    private static void emptyDays() {
        CHECK.sentence("EMPTY DOORS: in how many DAYS (0 to 60) a STREET has none AT HOME; none");
        due("without any", 0, () -> going(9999, 1).empty(0));
        due("in a day", 1, () -> going(0, 1).empty(1));
        due("in 60", 60, () -> going(59, 9).empty(1));
        due("too late", -1, () -> going(60, 9).empty(1));
        BalconyPort x = Refusal.past();
        due("one goes on DAY 19", 16, () -> x.empty(0));
        due("lost ones aren't at home", 0, () -> x.empty(1));
        x.sweep(0);
        due("the last one is lost", 0, () -> x.empty(0));
        // the first goes on DAY 0 and the second on DAY 1: both are gone in two days
        BalconyPort two = Check.of("balcony 1 1 0 2; balcony 2 1 0 2; ship 9 1 9; goes iron = day + 1;");
        due("both", 2, () -> two.empty(2));
        // one that comes back fills it again
        BalconyPort back = Check.of("balcony 1 1 0 2; ship 9 1 1; goes day = 0;");
        back.days(1);
        back.back(0);
        due("now", 0, () -> back.empty(2));
        back.days(1);
        due("never again", -1, () -> back.empty(2));
    }

    private static void followsDays() {
        CHECK.sentence("FOLLOWS: others that are AT HOME in 20 DAYS, but would not be, were a told one LOST now (bits)");
        for (int from : new int[] {0, 5}) {
            BalconyPort last = Check.of("balcony 1 1 0 0; balcony 1 1 0 0; ship 9 1 1; goes beside and not day < " + (from + 19) + ";");
            BalconyPort late = Check.of("balcony 1 1 0 0; balcony 1 1 0 0; ship 9 1 1; goes beside and not day < " + (from + 20) + ";");
            if (from > 0) {
                last.days(from);
                late.days(from);
            }
            due("on the last day", 2, () -> last.follows(0));
            due("on the last day", 1, () -> last.follows(1));
            due("a day too late", 0, () -> late.follows(0));
        }
        // beside a lost one the second goes at once, else on a day of its own: it must be at home in 20 days without
        String own = "balcony 1 1 0 0; balcony 2 1 0 0; ship 9 1 1; goes iron = 2 and (beside or day = ";
        due("it goes on the last day in any case", 0, () -> Check.of(own + "19);").follows(0));
        due("it would go a day too late", 2, () -> Check.of(own + "20);").follows(0));
        BalconyPort ten = Check.of("balcony 1 1 0 0;".repeat(10) + "ship 99 1 1; goes gone;");
        due("nine", 1022, () -> ten.follows(0));
        due("nine", 511, () -> ten.follows(9));
    }

    private static void followsOthers() {
        CHECK.sentence("FOLLOWS: others");
        // the told one is not among them, nor those that go in any case, nor those that would stay instead
        BalconyPort x = Check.of("balcony 5 1 0 0; balcony 4 1 0 0; balcony 3 1 0 0; ship 5 1 9; goes iron = 5 and day = 9 or iron = 3 or beside = 2;");
        due("the told one isn't", 0, () -> x.follows(0) & 1);
        due("those that go in any case aren't", 0, () -> x.follows(0) & 4);
        BalconyPort stays = Check.of("balcony 1 1 0 0; balcony 2 1 0 0; ship 9 1 1; goes iron = 1 or not gone;");
        due("one that goes only without the told one's going", 0, () -> stays.follows(0));
        BalconyPort alone = Check.of("balcony 1 1 0 0; ship 9 1 1; goes gone;");
        due("alone", 0, () -> alone.follows(0));
        // it makes room on the ship: the second one is never taken else
        BalconyPort room = Check.of("balcony 5 1 0 0; balcony 5 1 0 0; ship 5 1 1; goes day = 3;");
        due("room", 2, () -> room.follows(0));
        due("none", 0, () -> room.follows(1));
        room.sweep(0);
        due("lost already", 0, () -> room.follows(0));
    }

    private static void parted() {
        CHECK.sentence("23: Couples beside each other of which one is AT HOME, the other one not");
        BalconyPort x = Check.of("balcony 1 1 0 0;".repeat(10) + "ship 99 1 1; goes 0;");
        due("all at home", 0, x::parted);
        for (int b = 1; b < 10; b += 2) {
            x.sweep(b);
        }
        due("each second one", 9, x::parted);
        for (int b = 0; b < 10; b += 2) {
            x.sweep(b);
        }
        due("none at home", 0, x::parted);
        BalconyPort y = Refusal.past();
        due("at home and at sea; none else", 1, y::parted);
    }

    private static void richestDays() {
        CHECK.sentence("24: The STREET with most MONEY in so many DAYS (0 to 60); NONE: none has any");
        due("1 is some", 2, () -> over("balcony 1 1 1 2; wall 1 0;").richest(0));
        due("nothing is none", -1, () -> over("balcony 1 1 0 2; wall 1 0;").richest(60));
        for (int street = 0; street < 4; street++) {
            int richest = street;
            due("street " + street, richest, () -> over("balcony 1 1 0 " + richest + "; wall 1 1;").richest(0));
        }
        due("now", -1, () -> going(0, 1).richest(0));
        due("in a day", 1, () -> going(0, 1).richest(1));
        due("in 59", -1, () -> going(59, 1).richest(59));
        due("in 60", 1, () -> going(59, 1).richest(60));
        due("not yet", -1, () -> going(60, 1).richest(60));
        BalconyPort x = going(0, 1);
        x.days(1);
        due("now", 1, () -> x.richest(0));
        for (int days : new int[] {-1, 61, Integer.MIN_VALUE, Integer.MAX_VALUE}) {
            thrown("richest in " + days, BAD, y -> y.richest(days));
        }
    }

    private static void richestOfLikeOnes() {
        CHECK.sentence("24: (of like ones the least)");
        BalconyPort x = Check.of("balcony 1 1 1 3; balcony 1 1 1 1; balcony 1 1 1 2; wall 1 0; wall 1 0; wall 1 0; ship 99 1 1; goes day = 0;");
        due("three alike", 1, () -> x.richest(60));
        x.pots(0, 2);
        due("one more", 3, () -> x.richest(60));
        x.pots(1, 2);
        due("two alike", 1, () -> x.richest(60));
        x.pots(2, 3);
        due("one more", 2, () -> x.richest(60));
    }

    private static void waitingDays() {
        CHECK.sentence("25: How many are on THE QUAY in so many DAYS (0 to 60)");
        String text = "balcony 1 9 0 0;".repeat(10) + "ship 99 1 1; goes day = ";
        due("now", 0, () -> Check.of(text + "0;").waiting(0));
        due("in a day", 10, () -> Check.of(text + "0;").waiting(1));
        due("in 59", 0, () -> Check.of(text + "59;").waiting(59));
        due("in 60", 10, () -> Check.of(text + "59;").waiting(60));
        due("not yet", 0, () -> Check.of(text + "60;").waiting(60));
        due("now", 1, () -> Refusal.past().waiting(0));
        for (int days : new int[] {-1, 61, Integer.MIN_VALUE, Integer.MAX_VALUE}) {
            thrown("waiting in " + days, BAD, y -> y.waiting(days));
        }
    }

    private static void vacantDays() {
        CHECK.sentence("26: WALLS without a BALCONY in so many DAYS (0 to 60), as bits");
        String text = "balcony 1 9 0 0;".repeat(9) + "wall 9 0;".repeat(10) + "ship 99 1 1; goes day = ";
        due("now", 1023, () -> Check.of(text + "0;").vacant(0));
        due("in a day", 512, () -> Check.of(text + "0;").vacant(1));
        due("in 59", 1023, () -> Check.of(text + "59;").vacant(59));
        due("in 60", 512, () -> Check.of(text + "59;").vacant(60));
        due("not yet", 1023, () -> Check.of(text + "60;").vacant(60));
        due("without any", 0, () -> Check.of("balcony 1 1 1 1;").vacant(60));
        due("now", 2, () -> Refusal.past().vacant(0));
        for (int days : new int[] {-1, 61, Integer.MIN_VALUE, Integer.MAX_VALUE}) {
            thrown("vacant in " + days, BAD, y -> y.vacant(days));
        }
    }

    private static void fullestDays() {
        CHECK.sentence("27: In which of 60 DAYS from now on most WEIGHT is AT SEA at the end (1 to 60; NONE: never any)");
        due("the first", 1, () -> going(0, 2).fullest(0));
        due("the last", 60, () -> going(59, 2).fullest(0));
        due("how much", 3, () -> going(59, 2).fullest(1));
        due("too late", -1, () -> going(60, 2).fullest(0));
        due("nothing", 0, () -> going(60, 2).fullest(1));
        due("a voyage of a day is over at its end", -1, () -> going(0, 1).fullest(0));
        due("nothing", 0, () -> going(0, 1).fullest(1));
        due("without balconies", -1, () -> new BalconyPort().fullest(0));
        // one that is at sea now counts only if it still is at the end of the day
        BalconyPort x = going(0, 3);
        x.days(1);
        due("two to go", 1, () -> x.fullest(0));
        due("how much", 3, () -> x.fullest(1));
        x.days(1);
        due("one to go", -1, () -> x.fullest(0));
        x.days(1);
        x.back(0);
        due("back", 1, () -> x.fullest(0));
    }

    private static void fullestOfLikeOnes() {
        CHECK.sentence("27: (of like ones the first)");
        BalconyPort same = Check.of("balcony 4 1 1 0; balcony 5 1 0 0; ship 5 5 2; goes 1;");
        due("the first of two", 1, () -> same.fullest(0));
        due("how much", 5, () -> same.fullest(1));
        BalconyPort more = Check.of("balcony 4 1 0 0; balcony 5 1 0 0; ship 5 5 2; goes 1;");
        due("the heavier one", 6, () -> more.fullest(0));
        due("how much", 5, () -> more.fullest(1));
        BalconyPort most = Check.of("balcony 20 1 9 0; balcony 20 1 9 0; balcony 20 1 9 0; balcony 12 1 0 0;".repeat(2) + "ship 99 1 3; goes 1;");
        due("two ships", 2, () -> most.fullest(0));
        due("two ships", 198, () -> most.fullest(1));
    }

    private static void fullestWhat() {
        CHECK.sentence("27: NoSuchElementException: another what");
        thrown("what -1", NO, x -> x.fullest(-1));
        thrown("what 2", NO, x -> x.fullest(2));
        for (int what : FAR) {
            thrown("what " + what, NO, x -> x.fullest(what));
        }
    }

    private static void mostPotsHold() {
        CHECK.sentence("28: The most POTS (0 to 9) with which a BALCONY SAILS no later than it does");
        for (int hold = 20; hold <= 29; hold++) {
            int most = hold - 20;
            BalconyPort x = Check.of("balcony 20 1 0 0; ship " + hold + " 1 1; goes 1;");
            due("in a hold of " + hold, most, () -> x.mostPots(0));
            x.pots(0, most);
            due("it has so many", most, () -> x.mostPots(0));
        }
        due("more room", 9, () -> Check.of("balcony 20 1 9 0; ship 99 1 1; goes 1;").mostPots(0));
        due("too heavy with what it has", -1, () -> Check.of("balcony 20 1 5 0; ship 24 1 1; goes 1;").mostPots(0));
        due("in 60 days", 9, () -> going(59, 1).mostPots(0));
        due("too late", -1, () -> going(60, 1).mostPots(0));
    }

    private static void mostPotsNoLater() {
        CHECK.sentence("28: SAILS no later than it does");
        String text = "balcony 1 1 1 0; ship 99 1 1; goes ";
        due("later with 5 and more", 4, () -> Check.of(text + "pots < 5 or day = 30;").mostPots(0));
        due("as soon with 7", 7, () -> Check.of(text + "pots < 5 or day = 30 or pots = 7;").mostPots(0));
        due("sooner with 9", 9, () -> Check.of(text + "pots = 9 or day = 30;").mostPots(0));
        due("sooner with 6, as soon with 1", 6, () -> Check.of(text + "pots = 6 or pots = 1 and day = 30;").mostPots(0));
        due("a day later with more", 1, () -> Check.of(text + "pots = 1 and day = 29 or 1 < pots and day = 30;").mostPots(0));
        due("on the same day with more", 9, () -> Check.of(text + "pots = 1 and day = 29 or 1 < pots and day = 29;").mostPots(0));
        due("with fewer only", 1, () -> Check.of(text + "pots < 2;").mostPots(0));
        due("with none", 0, () -> Check.of("balcony 1 1 0 0; goes not pots;").mostPots(0));
    }

    private static void mostPotsNone() {
        CHECK.sentence("28: NONE: it never SAILS, or isn't AT HOME");
        BalconyPort x = Refusal.past();
        due("at home", 9, () -> x.mostPots(0));
        for (int place = 1; place <= 4; place++) {
            int balcony = place;
            due("from " + place, -1, () -> x.mostPots(balcony));
        }
        due("never", -1, () -> going(9999, 1).mostPots(0));
        due("never, though with others it would", -1, () -> Check.of("balcony 1 1 1 0; goes pots = 2;").mostPots(0));
    }

    private static void shipsNone() {
        CHECK.sentence("(0 without any); none, if one is too heavy");
        due("without balconies", 0, () -> new BalconyPort().ships());
        BalconyPort x = going(0, 1);
        due("one", 1, x::ships);
        x.days(1);
        due("none at home", 0, x::ships);
        due("as heavy", 1, () -> Check.of("balcony 20 1 9 0; ship 29 1 1;").ships());
        due("too heavy", -1, () -> Check.of("balcony 20 1 9 0; ship 28 1 1;").ships());
        due("one of two is too heavy", -1, () -> Check.of("balcony 1 1 0 0; balcony 20 1 9 0; ship 28 1 1;").ships());
        BalconyPort y = Check.of("balcony 20 1 8 0; balcony 1 1 0 0; ship 28 1 1;");
        due("two", 2, y::ships);
        y.pots(0, 9);
        due("too heavy by a pot", -1, y::ships);
        y.sweep(0);
        due("it isn't at home", 1, y::ships);
        y.sweep(1);
        due("none is", 0, y::ships);
    }

    private static void shipsFewest() {
        CHECK.sentence("SHIPS THAT WOULD DO: the fewest HOLDS into which all that are AT HOME go by WEIGHT, none parted");
        due("just full", 1, () -> Check.of("balcony 4 1 0 0; balcony 3 1 0 0; balcony 2 1 1 0; ship 10 1 1;").ships());
        due("one too much", 2, () -> Check.of("balcony 4 1 0 0; balcony 3 1 0 0; balcony 2 1 2 0; ship 10 1 1;").ships());
        due("99", 1, () -> Check.of("balcony 20 1 9 0; balcony 20 1 9 0; balcony 20 1 9 0; balcony 12 1 0 0; ship 99 1 1;").ships());
        due("100", 2, () -> Check.of("balcony 20 1 9 0; balcony 20 1 9 0; balcony 20 1 9 0; balcony 12 1 1 0; ship 99 1 1;").ships());
        // by weight two would do, but none is parted
        due("none parted", 3, () -> Check.of("balcony 6 1 0 0; balcony 6 1 0 0; balcony 6 1 0 0; ship 10 1 1;").ships());
        due("ten, each alone", 10, () -> Check.of("balcony 6 1 0 0;".repeat(10) + "ship 11 1 1;").ships());
        due("ten, by two", 5, () -> Check.of("balcony 6 1 0 0;".repeat(10) + "ship 12 1 1;").ships());
        // 5 4 | 3 3 3 | 5 2 2 fill three of 9; each into the first hold that takes it would need four
        due("the fewest", 3, () -> Check.of("balcony 2 1 0 0; balcony 3 1 0 0; balcony 3 1 0 0; balcony 2 1 0 0; balcony 5 1 0 0; balcony 4 1 0 0; balcony 3 1 0 0; balcony 5 1 0 0; ship 9 1 1;").ships());
    }

    private static void cargoHold() {
        CHECK.sentence("A CARGO: of BALCONIES AT HOME those that go into one HOLD with most POTS, all together");
        due("just full", 8, () -> Check.of("balcony 1 1 4 0; balcony 1 1 4 0; ship 10 1 1;").cargo(0));
        due("one too much", 4, () -> Check.of("balcony 1 1 4 0; balcony 2 1 4 0; ship 10 1 1;").cargo(0));
        due("the first one then", 1, () -> Check.of("balcony 1 1 4 0; balcony 2 1 4 0; ship 10 1 1;").cargo(1));
        BalconyPort nine = Check.of("balcony 1 1 9 0;".repeat(10) + "ship 99 1 1;");
        due("nine of ten", 81, () -> nine.cargo(0));
        due("nine of ten", 511, () -> nine.cargo(1));
        nine.pots(4, 8);
        due("all ten", 89, () -> nine.cargo(0));
        due("all ten", 1023, () -> nine.cargo(1));
        BalconyPort x = Refusal.past();
        due("at home only", 1, () -> x.cargo(0));
        due("at home only", 1, () -> x.cargo(1));
        x.sweep(0);
        due("none at home", 0, () -> x.cargo(0));
        due("none at home", 0, () -> x.cargo(1));
        due("too heavy", 0, () -> Check.of("balcony 20 1 9 0; ship 28 1 1;").cargo(0));
        due("as heavy", 9, () -> Check.of("balcony 20 1 9 0; ship 29 1 1;").cargo(0));
        BalconyPort both = Check.of("balcony 1 1 4 0; balcony 1 1 4 0; ship 10 1 1;");
        due("ships", 1, both::ships);
        due("behind ships", 8, () -> both.cargo(0));
        due("ships behind a cargo", 1, both::ships);
        // two small ones rather than the one with most
        due("all together", 6, () -> Check.of("balcony 4 1 5 0; balcony 1 1 3 0; balcony 1 1 3 0; ship 9 1 1;").cargo(1));
    }

    private static void cargoOfLikeOnes() {
        CHECK.sentence("which (bits: of like ones fewest BALCONIES, then the least number)");
        due("one rather than two", 4, () -> Check.of("balcony 1 1 2 0; balcony 1 1 2 0; balcony 1 1 4 0; ship 6 1 1;").cargo(1));
        due("two rather than three", 12, () -> Check.of("balcony 1 1 1 0; balcony 1 1 1 0; balcony 1 1 2 0; balcony 1 1 2 0; ship 7 1 1;").cargo(1));
        due("without one that has none", 2, () -> Check.of("balcony 1 1 0 0; balcony 1 1 1 0; balcony 1 1 0 0; ship 9 1 1;").cargo(1));
        due("none has any", 0, () -> Check.of("balcony 1 1 0 0; balcony 1 1 0 0; ship 9 1 1;").cargo(1));
        due("the least number", 3, () -> Check.of("balcony 1 1 3 0; balcony 1 1 3 0; balcony 1 1 3 0; ship 8 1 1;").cargo(1));
        due("the least number", 6, () -> Check.of("balcony 1 1 1 0; balcony 1 1 3 0; balcony 1 1 3 0; balcony 1 1 3 0; ship 8 1 1;").cargo(1));
        // 0 with 3 or 1 with 2: 9 or 6
        due("the least number, not the first balcony", 6, () -> Check.of("balcony 1 1 1 0; balcony 1 1 2 0; balcony 1 1 3 0; balcony 1 1 4 0; ship 7 1 1;").cargo(1));
    }

    private static void cargoWhat() {
        CHECK.sentence("30: NoSuchElementException: another what");
        thrown("what -1", NO, x -> x.cargo(-1));
        thrown("what 2", NO, x -> x.cargo(2));
        for (int what : FAR) {
            thrown("what " + what, NO, x -> x.cargo(what));
        }
    }

    private static void bestNone() {
        CHECK.sentence("31: THE BEST WALLS: RENT (balcony NONE), the WALL of a BALCONY (NONE: none)");
        BalconyPort x = Refusal.past();
        due("rent", 7, () -> x.best(-1));
        int[] want = {-1, -1, -1, 0, -1};
        for (int b = 0; b < 5; b++) {
            int balcony = b;
            due("wall of " + b, want[b], () -> x.best(balcony));
        }
        x.widen(1, 9);
        due("the one on the quay, too", 9, () -> x.best(-1));
        due("wall", 1, () -> x.best(2));
        BalconyPort none = Check.of("balcony 1 1 0 0; ship 9 1 1; goes 1;");
        none.days(1);
        due("without walls", 0, () -> none.best(-1));
        due("without walls", -1, () -> none.best(0));
        thrown("best(-2)", NO, y -> y.best(-2));
        thrown("best(5)", NO, y -> y.best(5));
        BalconyPort ten = Check.of("balcony 1 1 0 0;".repeat(10) + "wall 1 20;".repeat(10) + "ship 99 1 1; goes 1;");
        ten.days(1);
        due("ten", 200, () -> ten.best(-1));
        due("the last one", 9, () -> ten.best(9));
    }

    private static BalconyPort over(String text) {
        BalconyPort x = Check.of(text + "ship 99 1 1; goes day = 0;");
        x.days(1);
        return x;
    }

    private static void bestFirstRow() {
        CHECK.sentence("of like ones the first row (by BALCONIES: which WALL; none behind all)");
        BalconyPort narrow = over("balcony 1 2 0 0; wall 1 20; wall 2 1;");
        due("of its width or more", 1, () -> narrow.best(0));
        BalconyPort nothing = over("balcony 1 3 0 0; wall 1 20; wall 2 1;");
        due("all too narrow", -1, () -> nothing.best(0));
        due("no rent", 0, () -> nothing.best(-1));
        BalconyPort alike = over("balcony 1 1 0 0; balcony 1 1 0 0; wall 1 5; wall 1 5; wall 1 5;");
        due("the first", 0, () -> alike.best(0));
        due("then the second", 1, () -> alike.best(1));
        BalconyPort one = over("balcony 1 1 0 0; balcony 1 1 0 0; wall 1 5;");
        due("the first has it", 0, () -> one.best(0));
        due("none", -1, () -> one.best(1));
        BalconyPort free = over("balcony 1 1 0 0; balcony 1 1 0 0; wall 1 0; wall 1 0;");
        due("for nothing, rather than none", 0, () -> free.best(0));
        due("for nothing, rather than none", 1, () -> free.best(1));
        // the dear wall is the only one for the wide one, which is last: the first row gives it to the first, if that is as dear
        BalconyPort wide = over("balcony 1 1 0 0; balcony 1 9 0 0; wall 9 5; wall 1 0;");
        due("as much rent", 0, () -> wide.best(0));
        due("none is left", -1, () -> wide.best(1));
        BalconyPort dear = over("balcony 1 1 0 0; balcony 1 9 0 0; wall 9 5; wall 1 1;");
        due("more rent", 1, () -> dear.best(0));
        due("more rent", 0, () -> dear.best(1));
        due("more rent", 6, () -> dear.best(-1));
        // widths that neither grow nor fall along the numbers: each has the dearest wall that the wider ones leave
        BalconyPort mixed = over("balcony 1 2 0 0; balcony 1 9 0 0; balcony 1 1 0 0; balcony 1 5 0 0; balcony 1 7 0 0;"
            + "wall 1 9; wall 9 1; wall 5 7; wall 2 8; wall 7 3;");
        due("all", 28, () -> mixed.best(-1));
        int[] row = {3, 1, 0, 2, 4};
        for (int b = 0; b < 5; b++) {
            int balcony = b;
            due("wall of " + b, row[b], () -> mixed.best(balcony));
        }
        BalconyPort falling = over("balcony 1 5 0 0; balcony 1 3 0 0; balcony 1 4 0 0; wall 5 1; wall 4 9; wall 3 5;");
        due("all", 15, () -> falling.best(-1));
        due("the middle one", 2, () -> falling.best(1));
        due("the last one", 1, () -> falling.best(2));
        // three for two walls: the wide one gets none, as the first row does
        BalconyPort three = over("balcony 1 1 0 0; balcony 1 1 0 0; balcony 1 9 0 0; wall 9 5; wall 9 5;");
        due("first", 0, () -> three.best(0));
        due("second", 1, () -> three.best(1));
        due("third", -1, () -> three.best(2));
    }

    private static void wideningFewest() {
        CHECK.sentence("WIDENING: the fewest WALLS that must be of WIDTH 9: of as few the least as bits");
        due("none there", 0, () -> Check.of("balcony 1 9 0 0; wall 1 0;").widening());
        due("wide enough", 0, () -> over("balcony 1 8 0 0; wall 8 0;").widening());
        due("too narrow by one", 1, () -> over("balcony 1 9 0 0; wall 8 0;").widening());
        due("9 is wide enough", 0, () -> over("balcony 1 9 0 0; wall 9 0;").widening());
        due("the least bits", 1, () -> over("balcony 1 9 0 0; wall 1 0; wall 8 0; wall 2 0;").widening());
        due("one more that hangs", 1, () -> over("balcony 1 9 0 0; balcony 1 1 0 0; wall 1 0; wall 8 0;").widening());
        due("not the one that the other needs", 2, () -> over("balcony 1 9 0 0; balcony 1 8 0 0; wall 8 0; wall 7 0;").widening());
        due("two", 3, () -> over("balcony 1 9 0 0; balcony 1 9 0 0; wall 8 0; wall 8 0; wall 8 0;").widening());
        due("one of two wide ones has a wall", 2, () -> over("balcony 1 9 0 0; balcony 1 9 0 0; wall 9 0; wall 8 0; wall 8 0;").widening());
        due("all ten", 1023, () -> over("balcony 1 9 0 0;".repeat(10) + "wall 8 0;".repeat(10)).widening());
        due("one of ten", 1, () -> over("balcony 1 9 0 0;" + "wall 8 9;".repeat(10)).widening());
        BalconyPort x = over("balcony 1 5 0 0; wall 5 0; wall 1 0;");
        x.widen(0, 4);
        due("it hangs, but could not at once", 1, x::widening);
        x.sweep(0);
        due("none there", 0, x::widening);
    }

    private static void wideningNone() {
        CHECK.sentence("32: NONE: none");
        due("no walls", -1, () -> over("balcony 1 1 0 0;").widening());
        due("as many walls", 0, () -> over("balcony 1 1 0 0; balcony 1 1 0 0; wall 1 0; wall 1 0;").widening());
        due("too few walls", -1, () -> over("balcony 1 1 0 0; balcony 1 1 0 0; wall 9 0;").widening());
        due("ten for nine", -1, () -> over("balcony 1 1 0 0;".repeat(10) + "wall 9 0;".repeat(9)).widening());
        BalconyPort x = over("balcony 1 1 0 0; balcony 1 1 0 0; wall 9 0;");
        x.back(1);
        due("one is at sea", 0, x::widening);
    }

    private static void asBefore() {
        CHECK.sentence("AS BEFORE: how many couples that are beside each other hang on WALLS next in number (either way round)");
        due("next", 1, () -> over("balcony 1 1 0 0; balcony 1 2 0 0; wall 1 0; wall 2 0;").count(12));
        due("the other way round", 1, () -> over("balcony 1 2 0 0; balcony 1 1 0 0; wall 1 0; wall 2 0;").count(12));
        due("one between", 0, () -> over("balcony 1 1 0 0; balcony 1 3 0 0; wall 1 0; wall 2 0; wall 3 0;").count(12));
        due("other streets", 0, () -> over("balcony 1 1 0 0; balcony 1 2 0 1; wall 1 0; wall 2 0;").count(12));
        due("one is on the quay", 0, () -> over("balcony 1 1 0 0; balcony 1 2 0 0; wall 1 0; wall 1 0;").count(12));
        due("both are on the quay", 0, () -> over("balcony 1 2 0 0; balcony 1 2 0 0; wall 1 0;").count(12));
        due("the first wall and none", 0, () -> over("balcony 1 9 0 0; balcony 1 1 0 0; wall 1 0;").count(12));
        due("ten", 9, () -> over("balcony 1 1 0 0;".repeat(10) + "wall 1 0;".repeat(10)).count(12));
        due("the first wall and none, of another street", 0, () -> over("balcony 1 9 0 1; balcony 1 9 0 0; balcony 1 1 0 0; wall 1 0;").count(12));
        due("the last two of four", 1, () -> over("balcony 1 9 0 0; balcony 1 1 0 1; balcony 1 5 0 2; balcony 1 6 0 2; wall 9 0; wall 1 0; wall 7 0; wall 5 0; wall 6 0;").count(12));
        // the first and the last of three are not beside each other
        due("not beside", 0, () -> over("balcony 1 1 0 0; balcony 1 9 0 0; balcony 1 2 0 0; wall 2 0; wall 1 0; wall 8 0; wall 9 0;").count(12));
    }

    private static void homesick() {
        CHECK.sentence("A STREET's HOMESICK: how many of it are AT HOME less how many are not (LOST ones are not, either)");
        BalconyPort x = Check.of("balcony 1 1 0 0;".repeat(10) + "ship 99 1 2; goes day = 0;");
        due("all", 10, () -> x.street(0, 2));
        due("without any", 0, () -> x.street(1, 2));
        for (int b = 0; b < 10; b++) {
            x.sweep(b);
            int want = 10 - 2 * (b + 1);
            due("lost " + b, want, () -> x.street(0, 2));
        }
        due("none", -10, () -> x.street(0, 2));
        due("one at home, at sea, on the quay", -1, () -> Refusal.past().street(0, 2));
        due("on a wall, lost", -2, () -> Refusal.past().street(1, 2));
    }

    /** What only asks leaves all as it was; each answers the same again. */
    private static void nothingChanges() {
        CHECK.sentence("(If only DAYS go by, from now on:)");
        Refusal.On[] asks = {x -> x.where(0, 60, 0), x -> x.sails(0), x -> x.hangs(1), x -> x.earned(0, 60), x -> x.empty(0), x -> x.follows(0),
            x -> x.beside(1), x -> x.parted(), x -> x.richest(60), x -> x.waiting(60), x -> x.vacant(60), x -> x.fullest(0), x -> x.mostPots(0),
            x -> x.ships(), x -> x.cargo(1), x -> x.best(3), x -> x.widening(), x -> x.wrong(0), x -> x.look(0), x -> x.game(2, 3, 1, 0),
            x -> x.storms(7, 60, 2), x -> x.count(12), x -> x.fault()};
        for (int i = 0; i < asks.length; i++) {
            Refusal.On ask = asks[i];
            String want = String.valueOf(ask.answer(Refusal.past()));
            Refusal.due(CHECK, "question " + i, want, Refusal.NO_STATUS, ask);
            BalconyPort x = Refusal.past();
            for (Refusal.On other : asks) {
                other.answer(x);
            }
            due("question " + i + " behind all others", want, () -> ask.answer(x));
        }
    }
}
