/** The boundary cases that promises 1 to 8 name, what holds "as everywhere", and how many calls an object serves. */
public final class CallLimitsTest {
    private static final Check CHECK = new Check();
    private static final String NO = "NoSuchElementException";
    private static final String BAD = "IllegalArgumentException";
    private static final int[] FAR = {Integer.MIN_VALUE, -2, 100, Integer.MAX_VALUE};

    public static void main(String[] args) {
        noBalconies();
        feedTwenty();
        feedHighestFirst();
        feedFull();
        portTooMany();
        portFirstBytes();
        portAllAnew();
        portFault();
        faultPlace();
        countWhat();
        countBits();
        balconyWhat();
        balconyDaysToGo();
        balconyWereItAtHome();
        wallWhat();
        streetWhat();
        noSuchBalcony();
        noSuchWall();
        noSuchStreet();
        calls512();
        CHECK.end("CallLimitsTest");
    }

    private static void due(String what, Object want, Check.Call call) {
        CHECK.due(what, want, call);
    }

    /** A call that throws, and changes nothing at all. */
    private static void thrown(String what, String want, Refusal.On call) {
        Refusal.due(CHECK, what, want, Refusal.NO_STATUS, call);
    }

    private static void noBalconies() {
        CHECK.sentence("1: No BALCONIES");
        BalconyPort x = new BalconyPort();
        int[] want = {0, 0, 30, 3, 2, 0, 5, 0, 0, 0, 0, 0, 0, 0, 0, 0, 0, 0, 0};
        for (int i = 0; i < want.length; i++) {
            int what = i;
            due("count(" + i + ")", want[i], () -> x.count(what));
        }
        due("balcony", NO, () -> x.balcony(0, 0));
        due("wall", NO, () -> x.wall(0, 0));
        due("street", 0, () -> x.street(3, 2));
        due("fault", -1, x::fault);
        due("undo", -1, x::undo);
        due("restore", false, x::restore);
        due("ships", 0, x::ships);
        due("widening", 0, x::widening);
        due("best", 0, () -> x.best(-1));
        due("best", NO, () -> x.best(0));
        due("empty", 0, () -> x.empty(0));
        due("fullest", -1, () -> x.fullest(0));
        due("wrong", 0, () -> x.wrong(0));
        due("wrong", -1, () -> x.wrong(1));
        due("so without", 1, () -> x.wrong(2));
        due("look", -1, () -> x.look(0));
        due("look", 0, () -> x.look(1));
        due("game", NO, () -> x.game(0, 0, 0, 0));
        due("days", 20, () -> x.days(20));
        due("vacant", 0, () -> x.vacant(60));
        due("richest", -1, () -> x.richest(60));
    }

    private static void feedTwenty() {
        CHECK.sentence("2: Twenty bytes come behind the tape: how many it has");
        BalconyPort x = new BalconyPort();
        due("the first", 20, () -> x.feed(0, 0, 0, 0, 0));
        due("behind it", 40, () -> x.feed(-1, -1, -1, -1, -1));
        due("bytes of the tape", 40, () -> x.count(15));
        BalconyPort y = new BalconyPort();
        Check.feed(y, "wall 1 1;           wall 2 2;");
        due("both", 0, () -> y.port(29));
        due("both", 2, () -> y.count(1));
    }

    private static void feedHighestFirst() {
        CHECK.sentence("2: of each number the highest first");
        // one byte is no blank; its place is where the fault is
        for (int place = 0; place < 20; place++) {
            int[] five = {0x20202020, 0x0a0a0a0a, 0x20202020, 0x0a200a20, 0x200a200a};
            int shift = 24 - place % 4 * 8;
            five[place / 4] = five[place / 4] & ~(255 << shift) | 0x80 << shift;
            BalconyPort x = new BalconyPort();
            x.feed(five[0], five[1], five[2], five[3], five[4]);
            due("byte " + place, 1, () -> x.port(20));
            int wanted = place;
            due("its place", wanted, x::fault);
        }
        BalconyPort x = new BalconyPort();
        x.feed('w' << 24 | 'a' << 16 | 'l' << 8 | 'l', ' ' << 24 | '7' << 16 | ' ' << 8 | '1', '3' << 24 | ';' << 16 | 0xffff, -1, -1);
        due("a wall", 0, () -> x.port(10));
        due("its width", 7, () -> x.wall(0, 0));
        due("its rent", 13, () -> x.wall(0, 1));
    }

    private static void feedFull() {
        CHECK.sentence("2: NONE, and none come, if it would have more than 700");
        BalconyPort x = new BalconyPort();
        String text = " ".repeat(680) + "wall 3 2; wall 4 5; ";
        for (int at = 0; at < 680; at += 20) {
            Check.feed(x, text.substring(at, at + 20));
        }
        due("680", 680, () -> x.count(15));
        Check.feed(x, text.substring(680));
        due("700", 700, () -> x.count(15));
        due("more", -1, () -> x.feed(-1, -1, -1, -1, -1));
        due("still more", -1, () -> x.feed(0, 0, 0, 0, 0));
        due("as many", 700, () -> x.count(15));
        due("no status", 0, () -> x.count(16) + x.count(17) + x.count(18));
        due("what it had", 0, () -> x.port(700));
        due("the last wall", 5, () -> x.wall(1, 1));
        due("empty, from the start again", 20, () -> x.feed(0, 0, 0, 0, 0));
        // other numbers of bytes than those of whole feeds don't come about: a port empties the tape
        Refusal.due(CHECK, "a full tape", -1, Refusal.NO_STATUS, y -> {
            Check.feed(y, " ".repeat(700));
            return null;
        }, y -> y.feed(1, 2, 3, 4, 5));
    }

    private static void portTooMany() {
        CHECK.sentence("3: IllegalArgumentException: the tape has not so many, n below 0 (nothing changes)");
        for (int n : new int[] {1, -1, 20, 700, 701, Integer.MAX_VALUE, Integer.MIN_VALUE}) {
            thrown("an empty tape, port(" + n + ")", BAD, x -> x.port(n));
        }
        for (int n : new int[] {21, -1, 40, Integer.MAX_VALUE, Integer.MIN_VALUE}) {
            Refusal.due(CHECK, "20 bytes, port(" + n + ")", BAD, Refusal.NO_STATUS, x -> x.feed(0, 0, 0, 0, 0), x -> x.port(n));
        }
        BalconyPort x = new BalconyPort();
        Check.feed(x, "wall 3 2; wall 4 5;");
        due("one too many", BAD, () -> x.port(21));
        due("the tape stays", 0, () -> x.port(20));
        due("it was told", 2, () -> x.count(1));
        BalconyPort full = new BalconyPort();
        Check.feed(full, " ".repeat(700));
        due("701", BAD, () -> full.port(701));
        due("700", 0, () -> full.port(700));
    }

    private static void portFirstBytes() {
        CHECK.sentence("3: The tape's first n bytes (it is empty then)");
        for (int n : new int[] {0, 9, 10, 19, 20}) {
            BalconyPort x = new BalconyPort();
            Check.feed(x, "wall 3 2; wall 4 5; ");
            due("port(" + n + ")", 0, () -> x.port(n));
            due("walls of " + n, n == 0 ? 0 : n < 19 ? 1 : 2, () -> x.count(1));
            due("empty", 0, () -> x.count(15));
            due("empty", BAD, () -> x.port(1));
            due("from the start again", 20, () -> x.feed(0, 0, 0, 0, 0));
        }
        // read as: empty behind a text with a FAULT, too
        BalconyPort x = new BalconyPort();
        Check.feed(x, "wall 3 2; wall 4 5; ");
        due("cut", 1, () -> x.port(18));
        due("empty", 0, () -> x.count(15));
    }

    private static void portAllAnew() {
        CHECK.sentence("3: are a PORT, all anew: 0. ACTS, what is SEEN, MONEY, the image are gone");
        BalconyPort x = Refusal.past();
        due("money before", 22, () -> x.street(1, 0));
        due("nothing at all", 0, () -> x.port(0));
        int[] want = {0, 0, 30, 3, 2, 0, 5, 0, 0, 0, 0, 0, 0, 0, 0, 0, 1, 1, 1};
        for (int i = 0; i < want.length; i++) {
            int what = i;
            due("count(" + i + ")", want[i], () -> x.count(what));
        }
        due("money", 0, () -> x.street(1, 0));
        due("undo", -1, x::undo);
        due("restore", false, x::restore);
        due("so without", 1, () -> x.wrong(2));
        // the same text again: as at first
        BalconyPort y = Refusal.past();
        due("again", 0, () -> Check.port(y, Refusal.FIVE));
        due("at home", 31, () -> y.count(7));
        due("day", 0, () -> y.count(5));
        due("to go", 0, () -> y.balcony(1, 6));
        due("no wall", -1, () -> y.balcony(3, 5));
        due("no balcony", -1, () -> y.wall(0, 2));
        due("vacant", 3, () -> y.vacant(0));
        due("hangs", 3, () -> y.hangs(3));
        // what acts had changed is as told again
        BalconyPort z = Check.of("balcony 1 1 1 0; wall 2 3;");
        z.pots(0, 7);
        z.rent(0, 7);
        z.widen(0, 7);
        Check.port(z, "balcony 1 1 1 0; wall 2 3;");
        due("pots", 1, () -> z.balcony(0, 2));
        due("rent", 3, () -> z.wall(0, 1));
        due("width", 2, () -> z.wall(0, 0));
    }

    private static void portFault() {
        CHECK.sentence("3: or the FAULT (all stays, but STATUS)");
        Refusal.text(CHECK, 1, 0, "x");
        Refusal.text(CHECK, 2, 5, "wall 0 0;");
        Refusal.text(CHECK, 3, 5, "goes x;");
        Refusal.text(CHECK, 5, 7, "goes 1;goes 1;");
        Refusal.text(CHECK, 1, 54, "balcony 1 1 1 1; wall 1 1; ship 1 1 1; times 1; goes 1");
        BalconyPort x = new BalconyPort();
        for (int i = 1; i <= 3; i++) {
            due("fault", 1, () -> Check.port(x, ";"));
            int many = i;
            due("status 0", many, () -> x.count(16));
        }
        due("a fine one", 0, () -> Check.port(x, ""));
        due("status 0", 3, () -> x.count(16));
    }

    private static void faultPlace() {
        CHECK.sentence("4: The place of the latest port()'s FAULT; NONE without");
        BalconyPort x = new BalconyPort();
        due("at first", -1, x::fault);
        Check.port(x, "x");
        due("at the first byte", 0, x::fault);
        Check.port(x, "wall 1 1; x");
        due("the latest", 10, x::fault);
        x.feed(0, 0, 0, 0, 0);
        due("behind a feed", 10, x::fault);
        due("thrown", BAD, () -> x.port(21));
        due("behind that", 10, x::fault);
        x.image();
        x.days(1);
        x.undo();
        x.restore();
        due("behind acts and an image", 10, x::fault);
        x.port(0);
        due("behind a fine one", -1, x::fault);
        Check.port(x, " ".repeat(699) + "#");
        due("at the last byte", 699, x::fault);
        Check.port(x, " ".repeat(696) + "goes");
        due("the text's length", 700, x::fault);
        x.restore();
        due("no image", 700, x::fault);
    }

    private static void countWhat() {
        CHECK.sentence("5: NoSuchElementException: another what");
        BalconyPort x = Refusal.past();
        int[] want = {5, 2, 99, 1, 3, 4, 5, 1, 2, 4, 8, 16, 0, 3, 1, 0, 1, 1, 1};
        for (int i = 0; i < want.length; i++) {
            int what = i;
            due("count(" + i + ")", want[i], () -> x.count(what));
        }
        thrown("count(-1)", NO, y -> y.count(-1));
        thrown("count(19)", NO, y -> y.count(19));
        for (int what : FAR) {
            thrown("count(" + what + ")", NO, y -> y.count(what));
        }
    }

    private static void countBits() {
        CHECK.sentence("5: 7 to 11 BALCONIES AT HOME, AT SEA, on THE QUAY, on WALLS, LOST (bits)");
        BalconyPort x = Check.of("balcony 1 1 0 0;".repeat(10) + "wall 1 1;".repeat(10) + "ship 99 1 2; goes day;");
        due("ten at home", 1023, () -> x.count(7));
        x.days(1);
        due("ten at home", 1023, () -> x.count(7));
        x.days(1);
        due("ten at sea", 1023, () -> x.count(8));
        x.days(1);
        due("ten on walls", 1023, () -> x.count(10));
        due("as before", 9, () -> x.count(12));
        BalconyPort y = Check.of("balcony 1 1 0 0;".repeat(10) + "ship 99 1 1; goes 1;");
        y.days(1);
        due("ten on the quay", 1023, () -> y.count(9));
        for (int b = 0; b < 10; b++) {
            y.sweep(b);
        }
        due("ten lost", 1023, () -> y.count(11));
        due("none elsewhere", 0, () -> y.count(7) | y.count(8) | y.count(9) | y.count(10));
    }

    private static void balconyWhat() {
        CHECK.sentence("6: NoSuchElementException: no such BALCONY, what");
        BalconyPort x = Refusal.past();
        int[][] want = {{20, 2, 1, 0, 0, -1, 0, 0}, {4, 3, 2, 0, 1, -1, 2, 0}, {1, 9, 3, 0, 2, -1, 0, 0}, {1, 1, 4, 1, 3, 0, 0, 0}, {3, 1, 5, 1, 4, -1, 0, 0}};
        for (int i = 0; i < 40; i++) {
            int b = i / 8;
            int what = i % 8;
            due("balcony(" + b + ", " + what + ")", want[b][what], () -> x.balcony(b, what));
        }
        thrown("balcony(0, -1)", NO, y -> y.balcony(0, -1));
        thrown("balcony(0, 8)", NO, y -> y.balcony(0, 8));
        for (int what : FAR) {
            thrown("balcony(4, " + what + ")", NO, y -> y.balcony(4, what));
        }
    }

    private static void balconyDaysToGo() {
        CHECK.sentence("6: 6 DAYS to go (0: not AT SEA)");
        BalconyPort x = Check.of("balcony 1 1 0 0; ship 9 1 9; times 0;");
        due("at home", 0, () -> x.balcony(0, 6));
        for (int left = 8; left >= 1; left--) {
            x.days(1);
            int wanted = left;
            due("at sea", wanted, () -> x.balcony(0, 6));
        }
        x.days(1);
        due("on the quay", 2, () -> x.balcony(0, 4));
        due("on the quay", 0, () -> x.balcony(0, 6));
        x.back(0);
        due("back", 9, () -> x.balcony(0, 6));
        x.sweep(0);
        due("lost", 0, () -> x.balcony(0, 6));
    }

    private static void balconyWereItAtHome() {
        CHECK.sentence("6: 7 whether GOES gives more than 0 for it now, were it AT HOME (1)");
        // read as: at home it would leave its WALL free
        for (int free = 0; free <= 3; free++) {
            BalconyPort x = Check.of("balcony 1 1 0 0; balcony 1 1 0 1; balcony 1 9 0 2; wall 1 0; wall 1 0; ship 99 1 1; goes day = 0 or free = " + free + ";");
            x.days(1);
            due("on a wall, " + free + " free", free == 1 ? 1 : 0, () -> x.balcony(0, 7));
            due("on a wall, " + free + " free", free == 1 ? 1 : 0, () -> x.balcony(1, 7));
            due("on the quay, " + free + " free", free == 0 ? 1 : 0, () -> x.balcony(2, 7));
        }
        // more than 0, neither 0 nor less
        String[] rules = {"0-2147*1000*1000", "0-1", "0", "1", "2", "2147*1000*1000"};
        for (int i = 0; i < rules.length; i++) {
            int want = i < 3 ? 0 : 1;
            BalconyPort x = Check.of("balcony 1 1 0 0; goes " + rules[i] + ";");
            due("goes " + rules[i], want, () -> x.balcony(0, 7));
            x.sweep(0);
            due("lost, goes " + rules[i], want, () -> x.balcony(0, 7));
        }
    }

    private static void wallWhat() {
        CHECK.sentence("7: 0 WIDTH, 1 RENT, 2 the BALCONY (NONE). NoSuchElementException: no such WALL, what");
        BalconyPort x = Refusal.past();
        int[][] want = {{1, 7, 3}, {4, 2, -1}};
        for (int i = 0; i < 6; i++) {
            int w = i / 3;
            int what = i % 3;
            due("wall(" + w + ", " + what + ")", want[w][what], () -> x.wall(w, what));
        }
        thrown("wall(0, -1)", NO, y -> y.wall(0, -1));
        thrown("wall(1, 3)", NO, y -> y.wall(1, 3));
        for (int what : FAR) {
            thrown("wall(1, " + what + ")", NO, y -> y.wall(1, what));
        }
    }

    private static void streetWhat() {
        CHECK.sentence("8: 0 MONEY, 1 its BALCONIES (bits), 2 HOMESICK. NoSuchElementException: no such STREET, what");
        BalconyPort x = Refusal.past();
        int[][] want = {{0, 7, -1}, {22, 24, -2}, {0, 0, 0}, {0, 0, 0}};
        for (int i = 0; i < 12; i++) {
            int s = i / 3;
            int what = i % 3;
            due("street(" + s + ", " + what + ")", want[s][what], () -> x.street(s, what));
        }
        thrown("street(0, -1)", NO, y -> y.street(0, -1));
        thrown("street(3, 3)", NO, y -> y.street(3, 3));
        for (int what : FAR) {
            thrown("street(3, " + what + ")", NO, y -> y.street(3, what));
        }
    }

    /** All calls that take a balcony; with wrong other arguments, too, as this comes first. */
    private static void noSuchBalcony() {
        CHECK.sentence("6: NoSuchElementException: no such BALCONY (as everywhere)");
        Refusal.On[] last = {x -> x.balcony(4, 0), x -> x.where(4, 0, 0), x -> x.sails(4), x -> x.hangs(4), x -> x.follows(4),
            x -> x.beside(4), x -> x.mostPots(4), x -> x.best(4)};
        for (Refusal.On call : last) {
            due("the last one", false, () -> Check.answer(() -> call.answer(Refusal.past())).equals(NO));
        }
        for (int b : new int[] {5, 9, 10, 31, 32, -2, Integer.MIN_VALUE, Integer.MAX_VALUE}) {
            balconyCalls(b);
            thrown("best(" + b + ")", NO, x -> x.best(b));
        }
        balconyCalls(-1);
    }

    private static void balconyCalls(int b) {
        thrown("balcony(" + b + ")", NO, x -> x.balcony(b, 0));
        thrown("balcony(" + b + ")", NO, x -> x.balcony(b, 8));
        thrown("pots(" + b + ")", NO, x -> x.pots(b, 1));
        thrown("pots(" + b + ")", NO, x -> x.pots(b, 10));
        thrown("back(" + b + ")", NO, x -> x.back(b));
        thrown("sweep(" + b + ")", NO, x -> x.sweep(b));
        thrown("where(" + b + ")", NO, x -> x.where(b, 1, 0));
        thrown("where(" + b + ")", NO, x -> x.where(b, 61, 2));
        thrown("sails(" + b + ")", NO, x -> x.sails(b));
        thrown("hangs(" + b + ")", NO, x -> x.hangs(b));
        thrown("follows(" + b + ")", NO, x -> x.follows(b));
        thrown("beside(" + b + ")", NO, x -> x.beside(b));
        thrown("mostPots(" + b + ")", NO, x -> x.mostPots(b));
        thrown("game(" + b + ", 3)", NO, x -> x.game(b, 3, 0, 0));
        thrown("game(3, " + b + ")", NO, x -> x.game(3, b, 0, 0));
        thrown("game(" + b + ", " + b + ")", NO, x -> x.game(b, b, 0, 0));
    }

    private static void noSuchWall() {
        CHECK.sentence("7: NoSuchElementException: no such WALL (as everywhere)");
        due("the last one", 4, () -> Refusal.past().wall(1, 0));
        due("the last one", 2, () -> Refusal.past().rent(1, 0));
        due("the last one", 4, () -> Refusal.past().widen(1, 1));
        for (int w : new int[] {2, -1, 9, 10, 32, Integer.MIN_VALUE, Integer.MAX_VALUE}) {
            thrown("wall(" + w + ")", NO, x -> x.wall(w, 0));
            thrown("wall(" + w + ")", NO, x -> x.wall(w, 3));
            thrown("rent(" + w + ")", NO, x -> x.rent(w, 1));
            thrown("rent(" + w + ")", NO, x -> x.rent(w, 21));
            thrown("widen(" + w + ")", NO, x -> x.widen(w, 1));
            thrown("widen(" + w + ")", NO, x -> x.widen(w, 0));
            thrown("game(2, 3, " + w + ")", NO, x -> x.game(2, 3, w, 0));
            thrown("game(3, 3, " + w + ")", NO, x -> x.game(3, 3, w, 2));
        }
    }

    private static void noSuchStreet() {
        CHECK.sentence("8: NoSuchElementException: no such STREET (as everywhere)");
        BalconyPort x = new BalconyPort();
        for (int s = 0; s < 4; s++) {
            int street = s;
            due("street(" + s + ")", 0, () -> x.street(street, 0));
            due("earned(" + s + ")", 0, () -> x.earned(street, 60));
            due("empty(" + s + ")", 0, () -> x.empty(street));
        }
        for (int s : new int[] {4, -1, 5, 32, Integer.MIN_VALUE, Integer.MAX_VALUE}) {
            thrown("street(" + s + ")", NO, y -> y.street(s, 0));
            thrown("street(" + s + ")", NO, y -> y.street(s, 3));
            thrown("earned(" + s + ")", NO, y -> y.earned(s, 0));
            thrown("earned(" + s + ")", NO, y -> y.earned(s, 61));
            thrown("empty(" + s + ")", NO, y -> y.empty(s));
        }
    }

    private static void calls512() {
        CHECK.sentence("An object is used for at most 512 calls after it has been made");
        BalconyPort refused = new BalconyPort();
        for (int i = 0; i < 511; i++) {
            refused.days(0);
        }
        due("the 512th call", 511, () -> refused.count(17));
        BalconyPort seen = new BalconyPort();
        for (int i = 0; i < 511; i++) {
            seen.see(1, 0);
        }
        due("the 512th call", 503, () -> seen.count(18));
        BalconyPort texts = new BalconyPort();
        for (int i = 0; i < 255; i++) {
            texts.feed(-1, -1, -1, -1, -1);
            texts.port(20);
        }
        due("the 511th call", 255, () -> texts.count(16));
        due("the 512th call", 0, texts::fault);
        BalconyPort acts = Check.of("balcony 1 1 0 0;");
        for (int i = 0; i < 508; i++) {
            acts.pots(0, i % 10);
        }
        due("the 511th call", 40, () -> acts.count(13));
        due("the 512th call", 39, acts::undo);
    }
}
