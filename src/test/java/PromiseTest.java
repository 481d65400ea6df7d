/** Promise by promise, with answers reckoned by hand from the document. */
public final class PromiseTest {
    private static final Check CHECK = new Check();
    private static final String NO = "NoSuchElementException";
    private static final String BAD = "IllegalArgumentException";

    /**
     * Weights 5, 8, 8 in a hold of 12, each two days, for two days: the first sails on day 0, the second on day 2, the
     * third on day 4; they hang (but for the third, too wide) at the end of days 1 and 3.
     */
    private static final String THREE = "balcony 4 2 1 0; balcony 6 3 2 0; balcony 5 9 3 1;"
        + "wall 2 10; wall 3 4; ship 12 2 2; times 1;";

    private static void due(String what, Object want, Check.Call call) {
        CHECK.due(what, want, call);
    }

    public static void main(String[] args) {
        newObject();
        feed();
        port();
        counts();
        balcony();
        wallAndStreet();
        day();
        days();
        potsRentWiden();
        back();
        sweep();
        undo();
        whereSailsHangs();
        earnedEmpty();
        follows();
        besideParted();
        richestWaitingVacant();
        fullestMostPots();
        ships();
        cargo();
        best();
        widening();
        see();
        wrongLook();
        game();
        storms();
        image();
        CHECK.end("PromiseTest");
    }

    /** Promise 1. */
    private static void newObject() {
        BalconyPort x = new BalconyPort();
        int[] want = {0, 0, 30, 3, 2, 0, 5, 0, 0, 0, 0, 0, 0, 0, 0, 0, 0, 0, 0};
        for (int i = 0; i < want.length; i++) {
            int what = i;
            due("1 new count(" + i + ")", want[i], () -> x.count(what));
        }
        due("1 NONE", -1, () -> BalconyPort.NONE);
        due("1 new fault()", -1, x::fault);
        due("1 new sails", NO, () -> x.sails(0));
        due("1 new wall", NO, () -> x.wall(0, 0));
        due("1 new street", 0, () -> x.street(3, 1));
        due("1 new parted", 0, x::parted);
        due("1 new undo", -1, x::undo);
        due("1 new restore", false, x::restore);
        due("1 new storms", 0, () -> x.storms(0, 60, 2));
    }

    /** Promise 2. */
    private static void feed() {
        BalconyPort x = new BalconyPort();
        // g o e s, blank 0 0 1 ; in the second and third number: the highest byte comes first
        int goes = 'g' << 24 | 'o' << 16 | 'e' << 8 | 's';
        int one = ' ' << 24 | '0' << 16 | '0' << 8 | '1';
        due("2 feed", 20, () -> x.feed(0x0a202020, goes, one, ';' << 24, -1));
        due("2 port", 0, () -> x.port(13));
        due("2 empty", 0, () -> x.count(15));
        for (int i = 1; i <= 35; i++) {
            due("2 feed", 20 * i, () -> x.feed(-1, 0, 1, 2, 3));
        }
        due("2 full", -1, () -> x.feed(0, 0, 0, 0, 0));
        due("2 full stays", 700, () -> x.count(15));
        due("2 no token", 1, () -> x.port(700));
        due("2 its place", 0, x::fault);
        due("2 feed again", 20, () -> x.feed(0, 0, 0, 0, 0));
    }

    /** Promises 3 and 4; FaultTest has the faults. */
    private static void port() {
        BalconyPort x = new BalconyPort();
        due("3 too many", BAD, () -> x.port(1));
        due("3 below 0", BAD, () -> x.port(-1));
        due("3 none", 0, () -> x.port(0));
        due("3 fault", 1, () -> Check.port(x, " x"));
        due("4 fault", 1, x::fault);
        Check.feed(x, "wall 1 1;");
        due("3 too many", BAD, () -> x.port(21));
        due("3 below 0", BAD, () -> x.port(Integer.MIN_VALUE));
        due("3 nothing changes", 20, () -> x.count(15));
        due("4 nothing changes", 1, x::fault);
        due("3 refused texts", 1, () -> x.count(16));
        due("3 fine", 0, () -> x.port(10));
        due("3 the rest is gone", 0, () -> x.count(15));
        due("4 none", -1, x::fault);
        due("3 walls", 1, () -> x.count(1));

        BalconyPort y = Check.of(THREE);
        y.days(5);
        y.days(0);
        y.see(1, 1);
        y.see(0, 0);
        y.image();
        due("3 fault", 2, () -> Check.port(y, "wall 0 0;"));
        due("3 day stays", 5, () -> y.count(5));
        due("3 seen stays", 1, () -> y.count(14));
        due("3 acts stay", 1, () -> y.count(13));
        due("3 image stays", true, y::restore);
        due("3 status is the image's", 0, () -> y.count(16));
        due("3 fine", 0, () -> Check.port(y, "balcony 2 2 2 2;"));
        due("3 day", 0, () -> y.count(5));
        due("3 balconies", 1, () -> y.count(0));
        due("3 walls", 0, () -> y.count(1));
        due("3 hold", 30, () -> y.count(2));
        due("3 times", 5, () -> y.count(6));
        due("3 money", 0, () -> y.street(0, 0));
        due("3 acts", 0, () -> y.count(13));
        due("3 seen", 0, () -> y.count(14));
        due("3 image", false, y::restore);
        due("3 status stays", 1, () -> y.count(17));
        due("3 status stays", 1, () -> y.count(18));
        due("3 goes", 0, () -> y.balcony(0, 7));
        due("3 home", 1, () -> y.count(7));
        due("3 beside", 0, () -> y.beside(0));
    }

    /** Promise 5. */
    private static void counts() {
        BalconyPort x = Check.of(THREE + "goes 1;");
        x.days(4);
        x.see(1, 0);
        x.see(2, 0);
        x.feed(0, 0, 0, 0, 0);
        x.days(21);
        int[] want = {3, 2, 12, 2, 2, 4, 1, 4, 0, 0, 3, 0, 1, 1, 2, 20, 0, 1, 0};
        for (int i = 0; i < want.length; i++) {
            int what = i;
            due("5 count(" + i + ")", want[i], () -> x.count(what));
        }
        due("5 what", NO, () -> x.count(-1));
        due("5 what", NO, () -> x.count(19));
        due("5 what", NO, () -> x.count(Integer.MAX_VALUE));
        x.days(1);
        due("5 at sea", 4, () -> x.count(8));
        x.days(1);
        due("5 quay", 4, () -> x.count(9));
        x.sweep(1);
        due("5 lost", 2, () -> x.count(11));
        due("5 as before", 0, () -> x.count(12));

        BalconyPort times = Check.of("times 3 7 0;");
        due("5 times", 3, () -> times.count(6));
        times.days(1);
        due("5 times", 7, () -> times.count(6));
        times.days(4);
        due("5 times", 0, () -> times.count(6));
        times.days(1);
        due("5 times", 3, () -> times.count(6));

        // the second one hangs on the wall ahead of the first one's, the third two walls away from the second
        BalconyPort as = Check.of("balcony 1 5 0 0; balcony 1 2 0 0; balcony 1 9 0 0; wall 2 0; wall 5 0; wall 9 0; ship 9 1 1; times 0;");
        as.days(1);
        due("5 as before", 1, () -> as.count(12));
    }

    /** Promise 6. */
    private static void balcony() {
        BalconyPort x = Check.of(THREE);
        int[] home = {4, 2, 1, 0, 0, -1, 0, 1};
        for (int i = 0; i < home.length; i++) {
            int what = i;
            due("6 balcony(0, " + i + ")", home[i], () -> x.balcony(0, what));
        }
        x.days(1);
        due("6 at sea", 1, () -> x.balcony(0, 4));
        due("6 to go", 1, () -> x.balcony(0, 6));
        x.days(1);
        due("6 on a wall", 3, () -> x.balcony(0, 4));
        due("6 which", 0, () -> x.balcony(0, 5));
        due("6 to go", 0, () -> x.balcony(0, 6));
        due("6 no such", NO, () -> x.balcony(3, 0));
        due("6 no such", NO, () -> x.balcony(-1, 0));
        due("6 what", NO, () -> x.balcony(0, 8));
        due("6 what", NO, () -> x.balcony(0, -1));

        // as if it were at home: it is none of the others that are gone, and its wall is free
        BalconyPort y = Check.of("balcony 1 1 0 0; balcony 1 1 0 0; balcony 1 1 0 1; wall 1 1; wall 1 1; ship 9 1 1; goes day=0;");
        y.days(1);
        due("6 goes", 0, () -> y.balcony(0, 7));
        BalconyPort z = Check.of("balcony 1 1 0 0; wall 1 1; ship 9 1 1; goes free = 1 and gone = 0;");
        due("6 goes", 1, () -> z.balcony(0, 7));
        z.days(1);
        due("6 it hangs", 3, () -> z.balcony(0, 4));
        due("6 goes, were it at home", 1, () -> z.balcony(0, 7));

        BalconyPort usual = Check.of("balcony 1 1 0 0; times 4 5;");
        due("6 without a rule", 1, () -> usual.balcony(0, 7));
        usual.days(1);
        due("6 without a rule", 0, () -> usual.balcony(0, 7));
    }

    /** Promises 7 and 8. */
    private static void wallAndStreet() {
        BalconyPort x = Check.of(THREE);
        due("7 width", 3, () -> x.wall(1, 0));
        due("7 rent", 4, () -> x.wall(1, 1));
        due("7 none", -1, () -> x.wall(1, 2));
        due("7 no such", NO, () -> x.wall(2, 0));
        due("7 no such", NO, () -> x.wall(-1, 0));
        due("7 what", NO, () -> x.wall(0, 3));
        due("7 what", NO, () -> x.wall(0, -1));
        due("8 its balconies", 3, () -> x.street(0, 1));
        due("8 its balconies", 4, () -> x.street(1, 1));
        due("8 homesick", 2, () -> x.street(0, 2));
        x.days(4);
        due("7 the balcony", 1, () -> x.wall(1, 2));
        due("8 money", 39, () -> x.street(0, 0));
        due("8 money", 0, () -> x.street(1, 0));
        due("8 homesick", -2, () -> x.street(0, 2));
        due("8 homesick", 1, () -> x.street(1, 2));
        x.sweep(2);
        due("8 homesick, lost", -1, () -> x.street(1, 2));
        due("8 no such", NO, () -> x.street(4, 0));
        due("8 no such", NO, () -> x.street(-1, 0));
        due("8 what", NO, () -> x.street(0, 3));
        due("8 what", NO, () -> x.street(0, -1));
    }

    /** What a day does. */
    private static void day() {
        // the second one goes only when the first has gone on the same day; the third fits into what is left
        BalconyPort x = Check.of("balcony 9 1 0 0; balcony 9 1 0 0; balcony 2 1 0 0; ship 12 3 2; goes not iron=9 or gone=0 or day=3;");
        x.days(1);
        due("day taken", 5, () -> x.count(8));
        due("day at home", 2, () -> x.count(7));
        x.days(2);
        due("day not sailing", 2, () -> x.count(7));
        x.days(1);
        due("day sailing", 0, () -> x.count(7));
        due("day quay", 5, () -> x.count(9));

        // the narrowest wall, of like ones the first; the wide one has none
        BalconyPort y = Check.of("balcony 1 4 0 0; balcony 1 4 0 0; balcony 1 9 0 0; wall 8 1; wall 5 2; wall 5 3; wall 3 4; ship 9 1 1; times 0;");
        y.days(1);
        due("day wall", 1, () -> y.balcony(0, 5));
        due("day wall", 2, () -> y.balcony(1, 5));
        due("day waits", 2, () -> y.balcony(2, 4));
        y.widen(0, 9);
        y.days(1);
        due("day hangs", 0, () -> y.balcony(2, 5));

        // the rule is asked for each in order, behind those taken already
        BalconyPort chain = Check.of("balcony 1 1 0 0; balcony 1 1 0 0; balcony 1 1 0 0; ship 9 9 9; goes iron*beside or pots;");
        chain.days(1);
        due("day none goes", 7, () -> chain.count(7));
        chain.pots(0, 1);
        chain.days(9);
        due("day all go", 7, () -> chain.count(8));
        due("day to go", 8, () -> chain.balcony(2, 6));
    }

    /** Promise 9. */
    private static void days() {
        BalconyPort x = Check.of(THREE);
        due("9 days", 1, () -> x.days(1));
        due("9 days", 21, () -> x.days(20));
        due("9 too many", -1, () -> x.days(21));
        due("9 too few", -1, () -> x.days(0));
        due("9 too few", -1, () -> x.days(-1));
        due("9 too many", -1, () -> x.days(Integer.MAX_VALUE));
        due("9 refused", 4, () -> x.count(17));
        due("9 kept", 2, () -> x.count(13));
        for (int i = 0; i < 48; i++) {
            x.days(20);
        }
        due("9 day", 981, () -> x.count(5));
        due("9 beyond", -1, () -> x.days(19));
        due("9 last", 999, () -> x.days(18));
        due("9 beyond", -1, () -> x.days(1));
        due("9 ahead all the same", 60, () -> x.earned(0, 60) / 17);

        BalconyPort rich = Check.of("balcony 1 1 9 2;".repeat(9) + "wall 1 20;".repeat(9) + "ship 99 1 1; times 0;");
        for (int i = 0; i < 19; i++) {
            rich.days(20);
        }
        due("9 money", 99180, () -> rich.street(2, 0));
        due("9 earned", 819, () -> rich.earned(2, 60));
        rich.days(20);
        due("9 the most money", 99999, () -> rich.street(2, 0));
        due("9 storms", 99999, () -> rich.storms(1, 9, 2));
    }

    /** Promises 10, 11 and 14. */
    private static void potsRentWiden() {
        BalconyPort x = Check.of(THREE);
        due("10 pots", 1, () -> x.pots(0, 9));
        due("10 pots", 9, () -> x.pots(0, 0));
        due("10 below", -1, () -> x.pots(0, -1));
        due("10 above", -1, () -> x.pots(0, 10));
        due("10 stay", 0, () -> x.balcony(0, 2));
        due("10 no such", NO, () -> x.pots(3, 10));
        due("10 no such", NO, () -> x.pots(-1, 1));
        due("11 rent", 10, () -> x.rent(0, 20));
        due("11 rent", 20, () -> x.rent(0, 0));
        due("11 below", -1, () -> x.rent(0, -1));
        due("11 above", -1, () -> x.rent(0, 21));
        due("11 stays", 0, () -> x.wall(0, 1));
        due("11 no such", NO, () -> x.rent(2, 21));
        due("11 no such", NO, () -> x.rent(-1, 1));
        due("14 width", 2, () -> x.widen(0, 9));
        due("14 width", 9, () -> x.widen(0, 1));
        due("14 below", -1, () -> x.widen(0, 0));
        due("14 above", -1, () -> x.widen(0, 10));
        due("14 stays", 1, () -> x.wall(0, 0));
        due("14 no such", NO, () -> x.widen(2, 10));
        due("14 no such", NO, () -> x.widen(-1, 1));
        due("10 refused", 6, () -> x.count(17));
        due("10 kept", 6, () -> x.count(13));
        x.widen(0, 2);
        x.days(2);
        x.widen(0, 1);
        x.rent(0, 3);
        x.pots(0, 2);
        x.days(1);
        due("14 it stays on it", 0, () -> x.wall(0, 2));
        // without pots it left room for the second one, so that earned 6 twice beside 3 and 2
        due("11 earned", 17, () -> x.street(0, 0));
    }

    /** Promise 12. */
    private static void back() {
        BalconyPort x = Check.of(THREE);
        due("12 at home", false, () -> x.back(0));
        x.days(1);
        due("12 at sea", false, () -> x.back(0));
        x.days(1);
        due("12 on a wall", true, () -> x.back(0));
        due("12 at sea", 1, () -> x.balcony(0, 4));
        due("12 off its wall", -1, () -> x.balcony(0, 5));
        due("12 the wall", -1, () -> x.wall(0, 2));
        due("12 to go", 2, () -> x.balcony(0, 6));
        due("12 at sea", false, () -> x.back(0));
        x.days(1);
        due("12 to go", 1, () -> x.balcony(0, 6));
        x.days(1);
        due("12 at home", 0, () -> x.balcony(0, 4));
        due("12 refused", 3, () -> x.count(17));
        x.days(1);
        due("12 it goes again", 1, () -> x.balcony(0, 4));
        x.days(1);
        due("12 to the quay and a wall", 3, () -> x.balcony(0, 4));
        x.sweep(0);
        due("12 lost", false, () -> x.back(0));
        due("12 no such", NO, () -> x.back(3));
        due("12 no such", NO, () -> x.back(-1));

        BalconyPort y = Check.of("balcony 1 9 0 0; ship 9 1 1; times 0;");
        y.days(1);
        due("12 from the quay", true, () -> y.back(0));
        y.days(1);
        due("12 at home behind the sailing", 0, () -> y.balcony(0, 4));
    }

    /** Promise 13. */
    private static void sweep() {
        BalconyPort x = Check.of(THREE);
        due("13 at home", true, () -> x.sweep(2));
        due("13 again", false, () -> x.sweep(2));
        x.days(3);
        due("13 on a wall", true, () -> x.sweep(0));
        due("13 off its wall", -1, () -> x.wall(0, 2));
        due("13 at sea", true, () -> x.sweep(1));
        due("13 to go", 0, () -> x.balcony(1, 6));
        due("13 lost", 7, () -> x.count(11));
        x.days(20);
        due("13 for ever", 7, () -> x.count(11));
        due("13 refused", 1, () -> x.count(17));
        due("13 no such", NO, () -> x.sweep(3));
        due("13 no such", NO, () -> x.sweep(-1));
    }

    /** Promise 15. */
    private static void undo() {
        BalconyPort x = Check.of(THREE);
        x.days(4);
        x.back(1);
        x.sweep(0);
        x.widen(0, 7);
        x.rent(0, 7);
        x.pots(0, 7);
        x.days(0);
        x.see(1, 1);
        due("15 left", 5, x::undo);
        due("15 pots", 1, () -> x.balcony(0, 2));
        due("15 rent", 7, () -> x.wall(0, 1));
        due("15 left", 4, x::undo);
        due("15 rent", 10, () -> x.wall(0, 1));
        due("15 left", 3, x::undo);
        due("15 width", 2, () -> x.wall(0, 0));
        due("15 left", 2, x::undo);
        due("15 swept", 0, () -> x.balcony(0, 5));
        due("15 left", 1, x::undo);
        due("15 back", 1, () -> x.balcony(1, 5));
        due("15 left", 0, x::undo);
        due("15 days", 0, () -> x.count(5));
        due("15 money", 0, () -> x.street(0, 0));
        due("15 home", 7, () -> x.count(7));
        due("15 none", -1, x::undo);
        due("15 status stays", 1, () -> x.count(17));
        due("15 seen stays", 1, () -> x.count(14));
        for (int i = 0; i < 45; i++) {
            x.pots(0, i % 10);
        }
        due("15 kept", 40, () -> x.count(13));
        for (int i = 39; i >= 0; i--) {
            due("15 left", i, x::undo);
        }
        due("15 none", -1, x::undo);
        due("15 the oldest kept", 4, () -> x.balcony(0, 2));
    }

    /** Promises 16, 17 and 18. */
    private static void whereSailsHangs() {
        BalconyPort x = Check.of(THREE);
        due("16 now", 0, () -> x.where(0, 0, 0));
        due("16 at sea", 1, () -> x.where(0, 1, 0));
        due("16 on a wall", 3, () -> x.where(0, 2, 0));
        due("16 which", 0, () -> x.where(0, 2, 1));
        due("16 none", -1, () -> x.where(0, 1, 1));
        due("16 on the quay", 2, () -> x.where(2, 60, 0));
        due("16 days", BAD, () -> x.where(0, 61, 0));
        due("16 days", BAD, () -> x.where(0, -1, 0));
        due("16 what", NO, () -> x.where(0, 61, 2));
        due("16 what", NO, () -> x.where(0, 0, -1));
        due("16 no such", NO, () -> x.where(3, 61, 0));
        due("16 no such", NO, () -> x.where(-1, 0, 0));
        due("17 sails", 1, () -> x.sails(0));
        due("17 sails", 3, () -> x.sails(1));
        due("17 sails", 5, () -> x.sails(2));
        due("17 no such", NO, () -> x.sails(3));
        due("17 no such", NO, () -> x.sails(-1));
        due("18 hangs", 2, () -> x.hangs(0));
        due("18 hangs", 4, () -> x.hangs(1));
        due("18 none", -1, () -> x.hangs(2));
        due("18 no such", NO, () -> x.hangs(3));
        due("18 no such", NO, () -> x.hangs(-1));
        due("16 nothing changes", 0, () -> x.count(5));
        x.days(2);
        due("17 not at home", 0, () -> x.sails(0));
        due("18 hangs now", 0, () -> x.hangs(0));
        x.sweep(1);
        due("17 lost", 0, () -> x.sails(1));
        due("18 lost", -1, () -> x.hangs(1));

        BalconyPort late = Check.of("balcony 1 1 0 0; wall 1 1; ship 9 1 1; goes not day < 59;");
        due("17 the last day", 60, () -> late.sails(0));
        due("18 the last day", 60, () -> late.hangs(0));
        BalconyPort later = Check.of("balcony 1 1 0 0; wall 1 1; ship 9 1 1; goes not day < 60;");
        due("17 none", -1, () -> later.sails(0));
        due("18 none", -1, () -> later.hangs(0));
        later.days(1);
        due("17 from now on", 60, () -> later.sails(0));
    }

    /** Promises 19 and 20. */
    private static void earnedEmpty() {
        BalconyPort x = Check.of(THREE);
        due("19 none", 0, () -> x.earned(0, 0));
        due("19 earned", 11, () -> x.earned(0, 2));
        due("19 earned", 73, () -> x.earned(0, 6));
        due("19 earned", 0, () -> x.earned(1, 60));
        due("19 days", BAD, () -> x.earned(0, 61));
        due("19 days", BAD, () -> x.earned(0, -1));
        due("19 no such", NO, () -> x.earned(4, 61));
        due("19 no such", NO, () -> x.earned(-1, 0));
        due("20 empty", 3, () -> x.empty(0));
        due("20 empty", 5, () -> x.empty(1));
        due("20 without any", 0, () -> x.empty(3));
        due("20 no such", NO, () -> x.empty(4));
        due("20 no such", NO, () -> x.empty(-1));
        x.days(4);
        due("19 from now on", 34, () -> x.earned(0, 2));
        due("20 from now on", 1, () -> x.empty(1));
        due("20 now", 0, () -> x.empty(0));
        x.pots(2, 9);
        due("20 none", -1, () -> x.empty(1));
        BalconyPort late = Check.of("balcony 1 1 5 2; ship 20 1 3; goes day = 59;");
        due("20 the last day", 60, () -> late.empty(2));
    }

    /** Promise 21. */
    private static void follows() {
        BalconyPort x = Check.of("balcony 1 1 0 0; balcony 1 1 0 0; balcony 1 1 0 0; balcony 1 1 0 1; ship 9 1 1; goes beside;");
        due("21 follows", 6, () -> x.follows(0));
        due("21 follows", 5, () -> x.follows(1));
        due("21 none", 0, () -> x.follows(3));
        x.sweep(3);
        due("21 lost already", 0, () -> x.follows(3));
        due("21 no such", NO, () -> x.follows(4));
        due("21 no such", NO, () -> x.follows(-1));
        due("21 nothing changes", 7, () -> x.count(7));

        // in 20 days, not later
        BalconyPort y = Check.of("balcony 1 1 0 0; balcony 1 1 0 0; ship 9 1 1; goes beside and not day < 19;");
        due("21 on the last day", 2, () -> y.follows(0));
        BalconyPort z = Check.of("balcony 1 1 0 0; balcony 1 1 0 0; ship 9 1 1; goes beside and not day < 20;");
        due("21 too late", 0, () -> z.follows(0));
        // a wall that it leaves is free then
        BalconyPort wall = Check.of("balcony 1 1 0 0; balcony 2 1 0 1; wall 1 1; ship 9 1 1; goes free and (iron = 1 or day);");
        wall.days(1);
        due("21 the wall is free", 2, () -> wall.follows(0));
    }

    /** Promises 22 and 23. */
    private static void besideParted() {
        // street 0 has 0, 2 and 4, street 1 has 1, street 2 has 3
        BalconyPort x = Check.of("balcony 1 1 0 0; balcony 1 1 0 1; balcony 2 1 0 0; balcony 1 1 0 2; balcony 1 1 0 0; ship 9 1 1; goes iron - 1;");
        due("22 beside", 4, () -> x.beside(0));
        due("22 beside", 0, () -> x.beside(1));
        due("22 beside", 17, () -> x.beside(2));
        due("22 beside", 0, () -> x.beside(3));
        due("22 beside", 4, () -> x.beside(4));
        due("22 no such", NO, () -> x.beside(5));
        due("22 no such", NO, () -> x.beside(-1));
        due("23 parted", 0, x::parted);
        x.days(1);
        due("23 parted", 2, x::parted);
        x.sweep(4);
        due("23 parted", 1, x::parted);
        x.sweep(0);
        due("23 parted", 0, x::parted);
    }

    /** Promises 24, 25 and 26. */
    private static void richestWaitingVacant() {
        BalconyPort x = Check.of(THREE);
        due("24 none has any", -1, () -> x.richest(1));
        due("24 richest", 0, () -> x.richest(2));
        due("24 days", BAD, () -> x.richest(61));
        due("24 days", BAD, () -> x.richest(-1));
        due("25 waiting", 0, () -> x.waiting(5));
        due("25 waiting", 1, () -> x.waiting(6));
        due("25 waiting", 1, () -> x.waiting(60));
        due("25 days", BAD, () -> x.waiting(61));
        due("25 days", BAD, () -> x.waiting(-1));
        due("26 vacant", 3, () -> x.vacant(0));
        due("26 vacant", 2, () -> x.vacant(2));
        due("26 vacant", 0, () -> x.vacant(60));
        due("26 days", BAD, () -> x.vacant(61));
        due("26 days", BAD, () -> x.vacant(-1));
        // street 3 has 2 at once, street 1 as much a day later, then more
        BalconyPort y = Check.of("balcony 1 1 2 3; balcony 9 2 2 1; wall 1 0; wall 2 1; ship 11 1 1; times 0;");
        due("24 first", 3, () -> y.richest(1));
        due("24 later", 3, () -> y.richest(2));
        due("24 later", 1, () -> y.richest(5));
        due("24 of like ones", 1, () -> y.richest(3));
        BalconyPort poor = Check.of("balcony 1 1 0 3; wall 1 1; ship 9 1 1; times 0;");
        due("24 the least money", 3, () -> poor.richest(1));
    }

    /** Promises 27 and 28. */
    private static void fullestMostPots() {
        BalconyPort x = Check.of(THREE);
        due("27 the day", 3, () -> x.fullest(0));
        due("27 how much", 8, () -> x.fullest(1));
        due("27 what", NO, () -> x.fullest(2));
        due("27 what", NO, () -> x.fullest(-1));
        due("28 most", 8, () -> x.mostPots(0));
        due("28 most", 6, () -> x.mostPots(1));
        due("28 most", 7, () -> x.mostPots(2));
        due("28 no such", NO, () -> x.mostPots(3));
        due("28 no such", NO, () -> x.mostPots(-1));
        x.days(1);
        due("28 not at home", -1, () -> x.mostPots(0));
        x.days(9);
        due("27 never any", -1, () -> x.fullest(0));
        due("27 nothing", 0, () -> x.fullest(1));
        x.back(1);
        due("27 one that goes back", 1, () -> x.fullest(0));
        BalconyPort late = Check.of("balcony 1 1 5 0; ship 20 1 3; goes day = 59;");
        due("27 the last day", 60, () -> late.fullest(0));
        BalconyPort later = Check.of("balcony 1 1 5 0; ship 20 1 3; goes day = 60;");
        due("27 too late", -1, () -> later.fullest(0));
        BalconyPort never = Check.of("balcony 1 1 5 0; goes 0;");
        due("28 never", -1, () -> never.mostPots(0));
        BalconyPort only = Check.of("balcony 1 1 5 0; goes pots = 5 or pots = 7;");
        due("28 not all below", 7, () -> only.mostPots(0));
        BalconyPort without = Check.of("balcony 1 1 0 0; goes not pots;");
        due("28 no pots", 0, () -> without.mostPots(0));
        // with more it sails as soon, with still more later
        BalconyPort soon = Check.of("balcony 1 1 5 0; ship 20 1 3; goes pots < 8 or day;");
        due("28 no later", 7, () -> soon.mostPots(0));
    }

    /** Promise 29. */
    private static void ships() {
        BalconyPort x = Check.of(THREE);
        due("29 ships", 3, x::ships);
        x.days(1);
        due("29 ships", 2, x::ships);
        x.pots(2, 8);
        due("29 too heavy", -1, x::ships);
        x.sweep(2);
        due("29 only those at home", 1, x::ships);
        x.days(20);
        due("29 without any", 0, x::ships);
        // from the heaviest one on, each into the first hold, would take 3
        BalconyPort y = Check.of("balcony 4 1 0 0; balcony 4 1 0 0; balcony 3 1 0 0; balcony 3 1 0 0; balcony 3 1 0 0; balcony 2 1 1 0; ship 10 1 1;");
        due("29 the fewest", 2, y::ships);
        BalconyPort full = Check.of("balcony 20 1 9 0;".repeat(10) + "ship 99 1 1;");
        due("29 ten", 4, full::ships);
        BalconyPort alone = Check.of("balcony 20 1 9 0;".repeat(10) + "ship 29 1 1;");
        due("29 each alone", 10, alone::ships);
    }

    /** Promise 30. */
    private static void cargo() {
        BalconyPort x = Check.of("balcony 3 1 2 0; balcony 1 1 2 0; balcony 2 1 2 0; balcony 2 1 4 0; ship 10 1 1; times 9;");
        due("30 pots", 6, () -> x.cargo(0));
        due("30 the least number", 10, () -> x.cargo(1));
        due("30 what", NO, () -> x.cargo(2));
        due("30 what", NO, () -> x.cargo(-1));
        x.sweep(3);
        due("30 at home", 4, () -> x.cargo(0));
        due("30 at home", 3, () -> x.cargo(1));
        BalconyPort few = Check.of("balcony 1 1 2 0; balcony 1 1 2 0; balcony 1 1 4 0; ship 6 1 1;");
        due("30 the fewest", 4, () -> few.cargo(1));
        BalconyPort no = Check.of("balcony 1 1 0 0; balcony 20 1 9 0; ship 9 1 1;");
        due("30 no pots", 0, () -> no.cargo(0));
        due("30 none", 0, () -> no.cargo(1));
    }

    /** Promise 31. */
    private static void best() {
        BalconyPort x = Check.of("balcony 1 2 0 0; balcony 1 5 0 0; balcony 1 1 0 0; wall 5 9; wall 2 9; wall 9 9; ship 2 1 1; times 0 9;");
        due("31 none there", 0, () -> x.best(-1));
        due("31 none there", -1, () -> x.best(0));
        x.days(1);
        due("31 rent", 18, () -> x.best(-1));
        due("31 the first row", 0, () -> x.best(0));
        due("31 the first row", 2, () -> x.best(1));
        due("31 at home", -1, () -> x.best(2));
        due("31 no such", NO, () -> x.best(3));
        due("31 no such", NO, () -> x.best(-2));
        x.rent(1, 10);
        due("31 rent", 19, () -> x.best(-1));
        due("31 the first row", 1, () -> x.best(0));
        due("31 the first row", 0, () -> x.best(1));
        x.rent(0, 0);
        x.rent(1, 0);
        x.rent(2, 0);
        due("31 no rent", 0, () -> x.best(-1));
        due("31 a wall rather than none", 0, () -> x.best(0));
        due("31 a wall rather than none", 2, () -> x.best(1));

        // the wide one takes the only dear wall only if the narrow one, which is first, need not have it
        BalconyPort y = Check.of("balcony 1 1 0 0; balcony 1 9 0 0; wall 9 20; wall 1 1; ship 9 1 1; times 0;");
        y.days(1);
        due("31 rent", 21, () -> y.best(-1));
        due("31 wall", 1, () -> y.best(0));
        due("31 wall", 0, () -> y.best(1));
        y.rent(1, 0);
        due("31 the first row", 0, () -> y.best(0));
        due("31 none", -1, () -> y.best(1));
    }

    /** Promise 32. */
    private static void widening() {
        BalconyPort x = Check.of("balcony 1 9 0 0; balcony 1 8 0 0; balcony 1 2 0 0; wall 3 0; wall 1 0; wall 4 0; wall 5 0; ship 9 1 1; times 0;");
        due("32 none there", 0, x::widening);
        x.days(1);
        due("32 the least bits", 3, x::widening);
        x.widen(2, 8);
        due("32 one", 1, x::widening);
        x.widen(3, 9);
        due("32 none needed", 0, x::widening);
        x.widen(2, 1);
        x.widen(3, 1);
        x.widen(0, 1);
        due("32 all but one", 7, x::widening);
        BalconyPort y = Check.of("balcony 1 1 0 0; balcony 1 1 0 0; wall 9 0; ship 9 1 1; times 0;");
        y.days(1);
        due("32 too few walls", -1, y::widening);
        y.sweep(1);
        due("32 enough", 0, y::widening);
        BalconyPort all = Check.of("balcony 1 9 0 0;".repeat(10) + "wall 8 0;".repeat(10) + "ship 99 1 1; times 0;");
        all.days(1);
        due("32 all of them", 1023, all::widening);
    }

    /** Promises 33 and 36. */
    private static void see() {
        BalconyPort x = Check.of(THREE);
        due("33 days", -1, () -> x.see(0, 0));
        due("33 days", -1, () -> x.see(31, 0));
        due("33 pots", -1, () -> x.see(1, -1));
        due("33 pots", -1, () -> x.see(1, 100));
        due("33 seen", 1, () -> x.see(1, 99));
        due("33 seen", 2, () -> x.see(30, 0));
        for (int i = 3; i <= 8; i++) {
            due("33 seen", i, () -> x.see(1, 1));
        }
        due("33 there are 8", -1, () -> x.see(1, 1));
        due("33 refused", 5, () -> x.count(18));
        due("33 seen", 8, () -> x.count(14));
        x.forget();
        due("36 forgotten", 0, () -> x.count(14));
        due("36 seen", 1, () -> x.see(1, 1));
        due("36 status stays", 5, () -> x.count(18));
        due("36 no act", 0, () -> x.count(13));
    }

    /** Promises 34 and 35. */
    private static void wrongLook() {
        // with 9 pots it is too heavy to go; it is at sea at the end of the first day only
        BalconyPort x = Check.of("balcony 1 1 3 0; ship 9 1 2; times 0;");
        due("34 without any seen", 9, () -> x.wrong(0));
        due("34 the first", 0, () -> x.wrong(1));
        due("34 so without", 1, () -> x.wrong(2));
        due("35 the day", 1, () -> x.look(0));
        due("35 how many", 8, () -> x.look(1));
        x.see(1, 5);
        due("34 one", 1, () -> x.wrong(0));
        due("34 which", 5, () -> x.wrong(1));
        due("34 not without", 0, () -> x.wrong(2));
        due("35 the day", 1, () -> x.look(0));
        due("35 how many", 1, () -> x.look(1));
        x.see(2, 1);
        due("34 none", 0, () -> x.wrong(0));
        due("34 none", -1, () -> x.wrong(1));
        due("35 none", -1, () -> x.look(0));
        due("35 none", 0, () -> x.look(1));
        x.forget();
        x.see(1, 0);
        due("34 two", 2, () -> x.wrong(0));
        due("34 the first", 0, () -> x.wrong(1));
        x.forget();
        x.see(1, 3);
        due("34 another number than it has", 0, () -> x.wrong(0));
        due("34 so without", 1, () -> x.wrong(2));
        due("34 what", NO, () -> x.wrong(3));
        due("34 what", NO, () -> x.wrong(-1));
        due("35 what", NO, () -> x.look(2));
        due("35 what", NO, () -> x.look(-1));
        due("34 nothing changes", 3, () -> x.balcony(0, 2));

        // the second one sails on day 2, so days 3 and 4 tell more than day 1: both can be told from another
        BalconyPort y = Check.of("balcony 9 1 0 0; balcony 9 1 2 0; ship 11 2 3; times 0;");
        y.see(1, 0);
        due("34 the second one", 10, () -> y.wrong(1));
        due("35 the day", 3, () -> y.look(0));
        due("35 how many", 2, () -> y.look(1));
        // 64 pots at sea, by each one from 8 fewer to one more
        BalconyPort many = Check.of("balcony 1 1 8 0;".repeat(8) + "ship 99 1 2; times 0;");
        due("35 the day", 1, () -> many.look(0));
        due("35 how many", 9, () -> many.look(1));
        many.see(1, 65);
        due("34 each with one more", 8, () -> many.wrong(0));
        // the one with one pot goes, and all behind it: 65, 57, 49 .. 1 pots at sea, or none
        BalconyPort behind = Check.of("balcony 1 1 0 0;" + "balcony 1 1 8 0;".repeat(8) + "ship 99 1 3; goes pots = 1 or gone;");
        due("35 the day", 1, () -> behind.look(0));
        due("35 how many", 10, () -> behind.look(1));
    }

    /** Promise 37. */
    private static void game() {
        // on walls of rents 5 and 2; over wall 2 of rent 7
        BalconyPort x = Check.of("balcony 1 3 2 0; balcony 1 4 0 0; balcony 1 9 1 1; balcony 9 9 9 1;"
            + "wall 3 5; wall 4 2; wall 8 7; ship 12 1 1; times 0 9;");
        due("37 at home", BAD, () -> x.game(0, 1, 2, 0));
        x.days(1);
        due("37 rests", 2, () -> x.game(0, 1, 2, 0));
        due("37 the first", 1, () -> x.game(0, 1, 2, 1));
        due("37 the other way", 1, () -> x.game(1, 0, 2, 1));
        // the wide one on the quay has nothing alone, and 5 less than nothing, when both go: one of them goes
        due("37 too wide", 2, () -> x.game(1, 2, 2, 0));
        due("37 too wide", 1, () -> x.game(1, 2, 2, 1));
        x.pots(1, 9);
        // with 7 - 5 = 2 it is as well off by going, when both go; alone it has 7
        due("37 more pots", 3, () -> x.game(1, 2, 2, 0));
        x.pots(0, 9);
        // as many: nothing both
        due("37 as many", 2, () -> x.game(0, 1, 2, 0));
        due("37 at home", BAD, () -> x.game(0, 3, 2, 0));
        due("37 both are one", BAD, () -> x.game(0, 0, 2, 0));
        due("37 what", NO, () -> x.game(0, 0, 2, 2));
        due("37 what", NO, () -> x.game(0, 1, 2, -1));
        due("37 no such wall", NO, () -> x.game(0, 0, 3, 0));
        due("37 no such wall", NO, () -> x.game(0, 1, -1, 0));
        due("37 no such", NO, () -> x.game(4, 0, 0, 0));
        due("37 no such", NO, () -> x.game(0, -1, 0, 0));

        // both too wide, on the quay: the one with more pots loses 5 by going, when the other one goes
        BalconyPort y = Check.of("balcony 1 9 2 0; balcony 1 9 0 0; wall 1 20; ship 9 1 1; times 0;");
        y.days(1);
        due("37 nothing less 5", 3, () -> y.game(0, 1, 0, 0));
        due("37 the first", 0, () -> y.game(0, 1, 0, 1));
        BalconyPort quay = Check.of("balcony 1 9 2 0; balcony 1 9 0 0;" + "wall 8 5;".repeat(10) + "ship 9 1 1; times 0;");
        quay.days(1);
        due("37 nothing on the quay", 3, () -> quay.game(0, 1, 9, 0));
        // a dear wall: the one with more pots goes, whatever the other one does
        BalconyPort z = Check.of("balcony 1 1 2 0; balcony 1 1 0 0; wall 1 0; wall 1 0; wall 9 20; ship 9 1 1; times 0;");
        z.days(1);
        due("37 the one with more goes", 2, () -> z.game(0, 1, 2, 0));
        due("37 the other one may stay", 10, () -> z.game(0, 1, 2, 1));
        // the first one stays on its dear wall, so the other one goes
        BalconyPort one = Check.of("balcony 1 1 2 0; balcony 1 2 0 0; wall 1 9; wall 2 1; wall 2 8; ship 9 1 1; times 0;");
        one.days(1);
        due("37 one rests", 1, () -> one.game(0, 1, 2, 0));
        due("37 which", 1, () -> one.game(0, 1, 2, 1));
    }

    /** Promise 38. */
    private static void storms() {
        BalconyPort x = Check.of("balcony 1 1 0 0; balcony 1 1 0 3; wall 1 5; ship 9 9 3; times 0;");
        // seed 11 draws 3, then 0 and of two the second, then 2
        due("38 lost", 1, () -> x.storms(11, 3, 0));
        due("38 on walls", 1, () -> x.storms(11, 3, 1));
        due("38 money", 5, () -> x.storms(11, 3, 2));
        due("38 ahead of the day", 0, () -> x.storms(11, 1, 0));
        due("38 ahead of the day", 1, () -> x.storms(11, 2, 0));
        // seed 0 draws 0 and the first one, at home; then 4, 1; then 0 and the second one, on the quay
        due("38 lost", 0, () -> x.storms(0, 4, 0));
        due("38 money", 10, () -> x.storms(0, 4, 2));
        due("38 no days", 0, () -> x.storms(0, 0, 1));
        due("38 days", BAD, () -> x.storms(0, 61, 0));
        due("38 days", BAD, () -> x.storms(0, -1, 0));
        due("38 what", NO, () -> x.storms(0, 61, 3));
        due("38 what", NO, () -> x.storms(0, 0, -1));
        x.sweep(0);
        due("38 lost before", 1, () -> x.storms(0, 0, 0));
        due("38 nothing changes", 0, () -> x.count(5));
    }

    /** Promises 39 and 40. */
    private static void image() {
        BalconyPort x = Check.of(THREE);
        due("40 none", false, x::restore);
        x.days(2);
        x.pots(2, 5);
        x.see(1, 1);
        x.days(0);
        x.image();
        x.days(9);
        x.rent(0, 1);
        x.widen(0, 1);
        x.sweep(0);
        x.see(0, 0);
        x.see(2, 2);
        x.rent(0, 99);
        Check.feed(x, "x");
        for (int i = 0; i < 2; i++) {
            due("40 restored", true, x::restore);
            due("40 day", 2, () -> x.count(5));
            due("40 acts", 2, () -> x.count(13));
            due("40 seen", 1, () -> x.count(14));
            due("40 status", 1, () -> x.count(17));
            due("40 status", 0, () -> x.count(18));
            due("40 the tape stays", 20, () -> x.count(15));
            due("40 on a wall", 0, () -> x.balcony(0, 5));
            due("40 rent", 10, () -> x.wall(0, 1));
            due("40 width", 2, () -> x.wall(0, 0));
            due("40 pots", 5, () -> x.balcony(2, 2));
            due("40 money", 11, () -> x.street(0, 0));
            due("40 undo", 1, x::undo);
            due("40 pots", 3, () -> x.balcony(2, 2));
            due("40 undo", 0, x::undo);
            due("40 day", 0, () -> x.count(5));
            x.sweep(0);
            x.sweep(1);
        }
        x.image();
        x.undo();
        due("39 in place of the other one", true, x::restore);
        due("39 lost", 3, () -> x.count(11));
    }
}
