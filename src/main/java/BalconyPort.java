import java.util.Arrays;
import java.util.NoSuchElementException;

/** An old port from which balconies emigrate; ../shared/DOC.md tells what each call promises. */
public final class BalconyPort {
    public static final int NONE = -1;

    private static final int MOST = 10;
    private static final int STREETS = 4;
    private static final int WIDEST = 9;
    private static final int MOST_POTS = 9;
    private static final int MOST_RENT = 20;
    private static final int MOST_MONEY = 99999;
    private static final int LAST_DAY = 999;
    private static final int FARTHEST = 60;
    private static final int FARTHEST_SEEN = 30;

    private static final int HOME = 0;
    private static final int SEA = 1;
    private static final int QUAY = 2;
    private static final int WALL = 3;
    private static final int LOST = 4;

    private final Reader reader = new Reader();
    private final Plan plan = new Plan();
    private final Stand now = new Stand(plan);
    private final Stand kept = new Stand(plan);
    private final Scene trial = new Scene(plan);
    private final Stowage stowage = new Stowage(plan);
    private final Fitting fitting = new Fitting(plan);
    private final Customs customs = new Customs(plan, trial);
    private boolean isKept;

    public BalconyPort() {
        isKept = false;
    }

    public int feed(int a, int b, int c, int d, int e) {
        if (!reader.hasRoom()) {
            return NONE;
        }
        reader.take(a);
        reader.take(b);
        reader.take(c);
        reader.take(d);
        reader.take(e);
        return reader.fed;
    }

    public int port(int n) throws IllegalArgumentException {
        if (n < 0 || n > reader.fed) {
            throw new IllegalArgumentException("the tape has not so many bytes");
        }
        int kind = reader.read(n);
        if (kind != 0) {
            now.status[Stand.TEXTS]++;
            return kind;
        }
        plan.copyFrom(reader.draft);
        now.begin();
        isKept = false;
        return 0;
    }

    public int fault() {
        return reader.faultPlace;
    }

    public int count(int what) throws NoSuchElementException {
        if (what >= 7 && what <= 11) {
            return now.scene.thoseAt(what - 7);
        }
        if (what >= 16 && what <= 18) {
            return now.status[what - 16];
        }
        switch (what) {
            case 0: return plan.balconies;
            case 1: return plan.walls;
            case 2: return plan.ship[Plan.HOLD];
            case 3: return plan.ship[Plan.EVERY];
            case 4: return plan.ship[Plan.VOYAGE];
            case 5: return now.scene.day();
            case 6: return plan.timesOn(now.scene.day());
            case 12: return now.scene.asBefore();
            case 13: return now.acts.size;
            case 14: return now.seen.size;
            case 15: return reader.fed;
            default: throw new NoSuchElementException("no such count");
        }
    }

    public int balcony(int balcony, int what) throws NoSuchElementException {
        needBalcony(balcony);
        switch (what) {
            case 0: return plan.iron[balcony];
            case 1: return plan.width[balcony];
            case 2: return now.scene.potsOf(balcony);
            case 3: return plan.street[balcony];
            case 4: return now.scene.placeOf(balcony);
            case 5: return now.scene.wallOf(balcony);
            case 6: return now.scene.daysToGo(balcony);
            case 7: return now.scene.wouldGo(balcony) ? 1 : 0;
            default: throw new NoSuchElementException("a balcony has no such thing");
        }
    }

    public int wall(int wall, int what) throws NoSuchElementException {
        needWall(wall);
        switch (what) {
            case 0: return now.scene.widthOf(wall);
            case 1: return now.scene.rentOf(wall);
            case 2: return now.scene.guestOf(wall);
            default: throw new NoSuchElementException("a wall has no such thing");
        }
    }

    public int street(int street, int what) throws NoSuchElementException {
        needStreet(street);
        switch (what) {
            case 0: return now.scene.moneyOf(street);
            case 1: return plan.streetBits[street];
            case 2: return now.scene.homesick(street);
            default: throw new NoSuchElementException("a street has no such thing");
        }
    }

    public int days(int many) {
        if (many < 1 || many > 20 || now.scene.day() + many > LAST_DAY) {
            return refuseAct();
        }
        now.keepAct();
        now.scene.passDays(many);
        return now.scene.day();
    }

    public int pots(int balcony, int many) throws NoSuchElementException {
        needBalcony(balcony);
        if (many < 0 || many > MOST_POTS) {
            return refuseAct();
        }
        now.keepAct();
        int before = now.scene.potsOf(balcony);
        now.scene.givePots(balcony, many);
        return before;
    }

    public int rent(int wall, int rent) throws NoSuchElementException {
        needWall(wall);
        if (rent < 0 || rent > MOST_RENT) {
            return refuseAct();
        }
        now.keepAct();
        int before = now.scene.rentOf(wall);
        now.scene.setRent(wall, rent);
        return before;
    }

    public boolean back(int balcony) throws NoSuchElementException {
        needBalcony(balcony);
        if (!now.scene.isOver(balcony)) {
            refuseAct();
            return false;
        }
        now.keepAct();
        now.scene.sendBack(balcony);
        return true;
    }

    public boolean sweep(int balcony) throws NoSuchElementException {
        needBalcony(balcony);
        if (now.scene.placeOf(balcony) == LOST) {
            refuseAct();
            return false;
        }
        now.keepAct();
        now.scene.lose(balcony);
        return true;
    }

    public int widen(int wall, int width) throws NoSuchElementException {
        needWall(wall);
        if (width < 1 || width > WIDEST) {
            return refuseAct();
        }
        now.keepAct();
        int before = now.scene.widthOf(wall);
        now.scene.setWidth(wall, width);
        return before;
    }

    public int undo() {
        return now.undoAct();
    }

    public int where(int balcony, int days, int what) throws NoSuchElementException, IllegalArgumentException {
        needBalcony(balcony);
        needWhat(what, 1);
        needDays(days);
        Scene then = ahead(days);
        return what == 0 ? then.placeOf(balcony) : then.wallOf(balcony);
    }

    public int sails(int balcony) throws NoSuchElementException {
        needBalcony(balcony);
        trial.copyFrom(now.scene);
        return trial.daysUntilGone(balcony, FARTHEST);
    }

    public int hangs(int balcony) throws NoSuchElementException {
        needBalcony(balcony);
        trial.copyFrom(now.scene);
        return trial.daysUntilHung(balcony);
    }

    public int earned(int street, int days) throws NoSuchElementException, IllegalArgumentException {
        needStreet(street);
        needDays(days);
        return ahead(days).moneyOf(street) - now.scene.moneyOf(street);
    }

    public int empty(int street) throws NoSuchElementException {
        needStreet(street);
        trial.copyFrom(now.scene);
        return trial.daysUntilEmpty(street);
    }

    public int follows(int balcony) throws NoSuchElementException {
        needBalcony(balcony);
        int stay = ahead(20).thoseAt(HOME);
        trial.copyFrom(now.scene);
        trial.lose(balcony);
        trial.passDays(20);
        return stay & ~trial.thoseAt(HOME) & ~(1 << balcony);
    }

    public int beside(int balcony) throws NoSuchElementException {
        needBalcony(balcony);
        return plan.besideBits[balcony];
    }

    public int parted() {
        return now.scene.partedCouples();
    }

    public int richest(int days) throws IllegalArgumentException {
        needDays(days);
        return ahead(days).richestStreet();
    }

    public int waiting(int days) throws IllegalArgumentException {
        needDays(days);
        return Integer.bitCount(ahead(days).thoseAt(QUAY));
    }

    public int vacant(int days) throws IllegalArgumentException {
        needDays(days);
        return ahead(days).freeWalls();
    }

    public int fullest(int what) throws NoSuchElementException {
        needWhat(what, 1);
        trial.copyFrom(now.scene);
        int most = 0;
        int first = NONE;
        for (int day = 1; day <= FARTHEST; day++) {
            trial.passDay();
            int weight = trial.weightAtSea();
            if (weight > most) {
                most = weight;
                first = day;
            }
        }
        return what == 0 ? first : most;
    }

    public int mostPots(int balcony) throws NoSuchElementException {
        needBalcony(balcony);
        trial.copyFrom(now.scene);
        int latest = trial.daysUntilGone(balcony, FARTHEST);
        if (latest < 1) {
            return NONE;
        }
        for (int many = MOST_POTS; many >= 0; many--) {
            trial.copyFrom(now.scene);
            trial.givePots(balcony, many);
            if (trial.daysUntilGone(balcony, latest) != NONE) {
                return many;
            }
        }
        return NONE;
    }

    public int ships() {
        return stowage.fewestHolds(now.scene);
    }

    public int cargo(int what) throws NoSuchElementException {
        needWhat(what, 1);
        stowage.fillOneHold(now.scene);
        return what == 0 ? stowage.cargoPots : stowage.cargoBits;
    }

    public int best(int balcony) throws NoSuchElementException {
        if (balcony != NONE) {
            needBalcony(balcony);
        }
        fitting.share(now.scene);
        return balcony == NONE ? fitting.mostRent : fitting.given[balcony];
    }

    public int widening() {
        return fitting.fewestWidened(now.scene);
    }

    public int see(int days, int pots) {
        boolean taken = now.seen.add(days, pots);
        if (!taken) {
            now.status[Stand.SEEN]++;
            return NONE;
        }
        return now.seen.size;
    }

    public int wrong(int what) throws NoSuchElementException {
        needWhat(what, 2);
        if (what == 2) {
            return customs.isSoWithout(now) ? 1 : 0;
        }
        customs.findWrong(now, now.seen.lastDay());
        return what == 0 ? customs.found : customs.first;
    }

    public int look(int what) throws NoSuchElementException {
        needWhat(what, 1);
        customs.findWrong(now, FARTHEST_SEEN);
        customs.findUnlike();
        return what == 0 ? customs.lookDay : customs.unlike;
    }

    public void forget() {
        now.seen.size = 0;
    }

    public int game(int balcony, int other, int wall, int what) throws NoSuchElementException, IllegalArgumentException {
        needBalcony(balcony);
        needBalcony(other);
        needWall(wall);
        needWhat(what, 1);
        if (balcony == other || !now.scene.isOver(balcony) || !now.scene.isOver(other)) {
            throw new IllegalArgumentException("these two can't play");
        }
        int many = 0;
        int first = NONE;
        for (int couple = 0; couple < 4; couple++) {
            if (now.scene.rests(balcony, other, wall, couple)) {
                many++;
                first = first == NONE ? 10 * (couple >> 1) + (couple & 1) : first;
            }
        }
        return what == 0 ? many : first;
    }

    public int storms(int seed, int n, int what) throws NoSuchElementException, IllegalArgumentException {
        needWhat(what, 2);
        needDays(n);
        trial.copyFrom(now.scene);
        trial.passStorms(seed, n);
        if (what == 2) {
            return trial.moneyOfAll();
        }
        return Integer.bitCount(trial.thoseAt(what == 0 ? LOST : WALL));
    }

    public void image() {
        kept.copyFrom(now);
        isKept = true;
    }

    public boolean restore() {
        if (isKept) {
            now.copyFrom(kept);
        }
        return isKept;
    }

    private void needBalcony(int balcony) {
        if (balcony < 0 || balcony >= plan.balconies) {
            throw new NoSuchElementException("no such balcony");
        }
    }

    private void needWall(int wall) {
        if (wall < 0 || wall >= plan.walls) {
            throw new NoSuchElementException("no such wall");
        }
    }

    private void needStreet(int street) {
        if (street < 0 || street >= STREETS) {
            throw new NoSuchElementException("no such street");
        }
    }

    private void needWhat(int what, int last) {
        if (what < 0 || what > last) {
            throw new NoSuchElementException("no such thing is told");
        }
    }

    private void needDays(int days) {
        if (days < 0 || days > FARTHEST) {
            throw new IllegalArgumentException("not so many days");
        }
    }

    private int refuseAct() {
        now.status[Stand.ACTS]++;
        return NONE;
    }

    /** How it is if only so many days go by; one trial serves all calls, so that none makes rows. */
    private Scene ahead(int days) {
        trial.copyFrom(now.scene);
        trial.passDays(days);
        return trial;
    }

    /** What a text tells of a port, which no day and no act changes. */
    private static final class Plan {
        static final int HOLD = 0;
        static final int EVERY = 1;
        static final int VOYAGE = 2;
        static final int USUAL_TIMES = 5;
        static final int LONGEST_RULE = 700;

        int balconies;
        int walls;
        int timesMany;
        int ruleLength;
        final int[] iron = new int[MOST];
        final int[] width = new int[MOST];
        final int[] pots = new int[MOST];
        final int[] street = new int[MOST];
        final int[] wallWidth = new int[MOST];
        final int[] rent = new int[MOST];
        final int[] ship = new int[3];
        final int[] times = new int[MOST];
        final int[] rule = new int[LONGEST_RULE];
        final int[] streetBits = new int[STREETS];
        final int[] besideBits = new int[MOST];

        Plan() {
            clear();
        }

        void clear() {
            balconies = 0;
            walls = 0;
            timesMany = 0;
            ruleLength = 0;
            ship[HOLD] = 30;
            ship[EVERY] = 3;
            ship[VOYAGE] = 2;
        }

        void copyFrom(Plan other) {
            balconies = other.balconies;
            walls = other.walls;
            timesMany = other.timesMany;
            ruleLength = other.ruleLength;
            System.arraycopy(other.iron, 0, iron, 0, MOST);
            System.arraycopy(other.width, 0, width, 0, MOST);
            System.arraycopy(other.pots, 0, pots, 0, MOST);
            System.arraycopy(other.street, 0, street, 0, MOST);
            System.arraycopy(other.wallWidth, 0, wallWidth, 0, MOST);
            System.arraycopy(other.rent, 0, rent, 0, MOST);
            System.arraycopy(other.ship, 0, ship, 0, 3);
            System.arraycopy(other.times, 0, times, 0, MOST);
            System.arraycopy(other.rule, 0, rule, 0, ruleLength);
            findNeighbours();
        }

        private void findNeighbours() {
            Arrays.fill(streetBits, 0);
            for (int b = 0; b < balconies; b++) {
                int before = lastOf(streetBits[street[b]]);
                besideBits[b] = 0;
                if (before != NONE) {
                    besideBits[b] = 1 << before;
                    besideBits[before] |= 1 << b;
                }
                streetBits[street[b]] |= 1 << b;
            }
        }

        private static int lastOf(int bits) {
            for (int b = MOST - 1; b >= 0; b--) {
                if ((bits >> b & 1) != 0) {
                    return b;
                }
            }
            return NONE;
        }

        int timesOn(int day) {
            return timesMany > 0 ? times[day % timesMany] : USUAL_TIMES;
        }
    }

    /** The signs of a rule behind each other as they are reckoned: a number is itself, all else is below 0. */
    private static final class Sign {
        static final int TIMES = -1;
        static final int POTS = -2;
        static final int IRON = -3;
        static final int GONE = -4;
        static final int BESIDE = -5;
        static final int FREE = -6;
        static final int DAY = -7;
        static final int NOT = -8;
        static final int OR = -9;
        static final int AND = -10;
        static final int LESS = -11;
        static final int SAME = -12;
        static final int PLUS = -13;
        static final int MINUS = -14;
        static final int BY = -15;
        static final int PARTED_BY = -16;

        static int join(int sign, int x, int y) {
            switch (sign) {
                case OR: return x != 0 || y != 0 ? 1 : 0;
                case AND: return x != 0 && y != 0 ? 1 : 0;
                case LESS: return x < y ? 1 : 0;
                case SAME: return x == y ? 1 : 0;
                case PLUS: return x + y;
                case MINUS: return x - y;
                case BY: return x * y;
                default: return y == 0 ? 0 : x / y;
            }
        }
    }

    /** The tape, and the reading of a text on it into a draft, so that a text with a fault changes nothing. */
    private static final class Reader {
        static final int LONGEST = 700;
        static final int FEED = 20;
        static final int DEEPEST = 6;
        static final int MOST_NOTS = 6;

        static final int MISPLACED = 1;
        static final int TOO_MUCH = 2;
        static final int NO_VALUE = 3;
        static final int TWICE = 5;

        // a token of one sign has that sign's number as its kind
        static final int END = 0;
        static final int WORD = 1;
        static final int NUMBER = 2;
        static final int NO_TOKEN = 3;

        final Plan draft = new Plan();
        final byte[] tape = new byte[LONGEST];
        int fed;
        int faultPlace = NONE;
        private int faultKind;
        private int end;
        private int at;
        private int kind;
        private int start;
        private int number;
        private boolean hasShip;

        boolean hasRoom() {
            return fed + FEED <= LONGEST;
        }

        void take(int four) {
            for (int shift = 24; shift >= 0 && fed < LONGEST; shift -= 8) {
                tape[fed] = (byte) (four >> shift);
                fed++;
            }
        }

        /** Reads the first n bytes: 0, or the fault. */
        int read(int n) {
            draft.clear();
            end = n;
            at = 0;
            fed = 0;
            hasShip = false;
            faultKind = 0;
            faultPlace = NONE;
            nextToken();
            boolean fine = true;
            for (int line = 0; line < LONGEST && fine && kind != END; line++) {
                fine = readLine();
            }
            return faultKind;
        }

        private boolean fail(int fault) {
            faultKind = fault;
            faultPlace = start;
            return false;
        }

        private int signAt(int place) {
            return place < end ? tape[place] & 255 : 0;
        }

        private static boolean isLetter(int sign) {
            return sign >= 'a' && sign <= 'z';
        }

        private static boolean isDigit(int sign) {
            return sign >= '0' && sign <= '9';
        }

        private void nextToken() {
            while (at < end && (tape[at] == ' ' || tape[at] == '\n')) {
                at++;
            }
            start = at;
            int sign = signAt(at);
            if (at >= end) {
                kind = END;
            } else if (isLetter(sign)) {
                kind = WORD;
                while (at < end && isLetter(signAt(at))) {
                    at++;
                }
            } else if (isDigit(sign)) {
                takeNumber();
            } else {
                kind = ";()+-*/<=".indexOf((char) sign) >= 0 ? sign : NO_TOKEN;
                at++;
            }
        }

        /** A number of too many digits is told as one below 0, which is too little everywhere. */
        private void takeNumber() {
            kind = NUMBER;
            number = 0;
            while (at < end && isDigit(signAt(at))) {
                number = at - start < 4 ? number * 10 + signAt(at) - '0' : NONE;
                at++;
            }
        }

        private boolean isWord(String word) {
            int length = word.length();
            if (kind != WORD || at - start != length) {
                return false;
            }
            for (int i = 0; i < length; i++) {
                if (signAt(start + i) != word.charAt(i)) {
                    return false;
                }
            }
            return true;
        }

        private boolean readLine() {
            if (isWord("balcony")) {
                return readBalcony();
            }
            if (isWord("wall")) {
                return readWall();
            }
            if (isWord("ship")) {
                return readShip();
            }
            if (isWord("times")) {
                return readTimes();
            }
            // a method of its own for a rule would let calls go nine deep
            if (isWord("goes")) {
                return beginOnce(draft.ruleLength > 0) && readOr(0) && readEnd(';');
            }
            return fail(MISPLACED);
        }

        private boolean beginOnce(boolean stoodBefore) {
            if (stoodBefore) {
                return fail(TWICE);
            }
            nextToken();
            return true;
        }

        private boolean readBalcony() {
            int b = draft.balconies;
            if (b >= MOST) {
                return fail(TOO_MUCH);
            }
            draft.balconies = b + 1;
            nextToken();
            return readNumber(draft.iron, b, 1, 20) && readNumber(draft.width, b, 1, WIDEST)
                && readNumber(draft.pots, b, 0, MOST_POTS) && readNumber(draft.street, b, 0, STREETS - 1)
                && readEnd(';');
        }

        private boolean readWall() {
            int w = draft.walls;
            if (w >= MOST) {
                return fail(TOO_MUCH);
            }
            draft.walls = w + 1;
            nextToken();
            return readNumber(draft.wallWidth, w, 1, WIDEST) && readNumber(draft.rent, w, 0, MOST_RENT)
                && readEnd(';');
        }

        private boolean readShip() {
            boolean isSecond = hasShip;
            hasShip = true;
            return beginOnce(isSecond) && readNumber(draft.ship, Plan.HOLD, 1, 99)
                && readNumber(draft.ship, Plan.EVERY, 1, 9) && readNumber(draft.ship, Plan.VOYAGE, 1, 9) && readEnd(';');
        }

        private boolean readTimes() {
            boolean fine = beginOnce(draft.timesMany > 0) && readNumber(draft.times, 0, 0, 9);
            int many = 1;
            while (fine && kind == NUMBER && many < MOST) {
                fine = readNumber(draft.times, many, 0, 9);
                many++;
            }
            draft.timesMany = many;
            if (fine && kind == NUMBER) {
                return fail(TOO_MUCH);
            }
            return fine && readEnd(';');
        }

        private boolean readNumber(int[] into, int index, int least, int most) {
            if (kind != NUMBER) {
                return fail(MISPLACED);
            }
            if (number < least || number > most || index < 0 || index >= into.length) {
                return fail(TOO_MUCH);
            }
            into[index] = number;
            nextToken();
            return true;
        }

        private boolean readEnd(char sign) {
            if (kind != sign) {
                return fail(MISPLACED);
            }
            nextToken();
            return true;
        }

        private boolean addSign(int sign) {
            if (draft.ruleLength >= Plan.LONGEST_RULE) {
                return fail(TOO_MUCH);
            }
            draft.rule[draft.ruleLength] = sign;
            draft.ruleLength++;
            return true;
        }

        /** A whole EXPR, the depth being how many others it is within. */
        private boolean readOr(int depth) {
            if (depth >= DEEPEST) {
                return fail(kind == NUMBER || kind == WORD || kind == '(' ? TOO_MUCH : MISPLACED);
            }
            boolean fine = readAnd(depth);
            for (int i = 0; i < LONGEST && fine && isWord("or"); i++) {
                nextToken();
                fine = readAnd(depth) && addSign(Sign.OR);
            }
            return fine;
        }

        private boolean readAnd(int depth) {
            boolean fine = readNot(depth);
            for (int i = 0; i < LONGEST && fine && isWord("and"); i++) {
                nextToken();
                fine = readNot(depth) && addSign(Sign.AND);
            }
            return fine;
        }

        private boolean readNot(int depth) {
            int nots = 0;
            while (nots < MOST_NOTS && isWord("not")) {
                nextToken();
                nots++;
            }
            if (nots == MOST_NOTS && isWord("not")) {
                return fail(TOO_MUCH);
            }
            boolean fine = readTest(depth);
            for (int i = 0; i < nots && fine; i++) {
                fine = addSign(Sign.NOT);
            }
            return fine;
        }

        private boolean readTest(int depth) {
            if (!readSum(depth)) {
                return false;
            }
            if (kind != '<' && kind != '=') {
                return true;
            }
            int sign = kind == '<' ? Sign.LESS : Sign.SAME;
            nextToken();
            return readSum(depth) && addSign(sign);
        }

        private boolean readSum(int depth) {
            boolean fine = readProduct(depth);
            for (int i = 0; i < LONGEST && fine && (kind == '+' || kind == '-'); i++) {
                int sign = kind == '+' ? Sign.PLUS : Sign.MINUS;
                nextToken();
                fine = readProduct(depth) && addSign(sign);
            }
            return fine;
        }

        private boolean readProduct(int depth) {
            boolean fine = readPart(depth);
            for (int i = 0; i < LONGEST && fine && (kind == '*' || kind == '/'); i++) {
                int sign = kind == '*' ? Sign.BY : Sign.PARTED_BY;
                nextToken();
                fine = readPart(depth) && addSign(sign);
            }
            return fine;
        }

        private boolean readPart(int depth) {
            if (kind == '(') {
                nextToken();
                return readOr(depth + 1) && readEnd(')');
            }
            if (kind == NUMBER && number == NONE) {
                return fail(TOO_MUCH);
            }
            if (kind != NUMBER && kind != WORD) {
                return fail(MISPLACED);
            }
            int sign = kind == NUMBER ? number : valueSign();
            if (sign == 0 && kind == WORD) {
                return fail(NO_VALUE);
            }
            boolean fine = addSign(sign);
            nextToken();
            return fine;
        }

        /** The sign of a VALUE's word; 0, if it is no VALUE. */
        private int valueSign() {
            if (isWord("times")) {
                return Sign.TIMES;
            }
            if (isWord("pots")) {
                return Sign.POTS;
            }
            if (isWord("iron")) {
                return Sign.IRON;
            }
            if (isWord("gone")) {
                return Sign.GONE;
            }
            if (isWord("beside")) {
                return Sign.BESIDE;
            }
            if (isWord("free")) {
                return Sign.FREE;
            }
            return isWord("day") ? Sign.DAY : 0;
        }
    }

    /** All that days and acts change, in one row of numbers, so that it is kept and brought back by one copy. */
    private static final class Scene {
        static final int DAY = 0;
        static final int MONEY = 1;
        static final int THOSE_AT = 5;
        static final int TAKEN = 10;
        static final int HOMEWARD = 11;
        static final int PLACE = 12;
        static final int HUNG = 22;
        static final int LEFT = 32;
        static final int POTS = 42;
        static final int GUEST = 52;
        static final int WIDTH = 62;
        static final int RENT = 72;
        static final int SIZE = 82;

        // six EXPRs within each other, each with at most five numbers that wait, stay far below
        static final int HIGHEST = 64;

        final Plan plan;
        final int[] row = new int[SIZE];
        private final int[] pile = new int[HIGHEST];

        Scene(Plan plan) {
            this.plan = plan;
            begin();
        }

        void begin() {
            Arrays.fill(row, 0);
            row[THOSE_AT + HOME] = (1 << plan.balconies) - 1;
            for (int i = 0; i < MOST; i++) {
                row[HUNG + i] = NONE;
                row[GUEST + i] = NONE;
                row[POTS + i] = plan.pots[i];
                row[WIDTH + i] = plan.wallWidth[i];
                row[RENT + i] = plan.rent[i];
            }
        }

        void copyFrom(Scene other) {
            System.arraycopy(other.row, 0, row, 0, SIZE);
        }

        int day() {
            return row[DAY];
        }

        int moneyOf(int street) {
            return row[MONEY + street];
        }

        int moneyOfAll() {
            int sum = 0;
            for (int s = 0; s < STREETS; s++) {
                sum += row[MONEY + s];
            }
            return sum;
        }

        int thoseAt(int place) {
            return row[THOSE_AT + place];
        }

        int thoseOver() {
            return row[THOSE_AT + QUAY] | row[THOSE_AT + WALL];
        }

        int placeOf(int b) {
            return row[PLACE + b];
        }

        boolean isOver(int b) {
            return row[PLACE + b] == QUAY || row[PLACE + b] == WALL;
        }

        int wallOf(int b) {
            return row[HUNG + b];
        }

        int daysToGo(int b) {
            return row[LEFT + b];
        }

        int potsOf(int b) {
            return row[POTS + b];
        }

        int weightOf(int b) {
            return plan.iron[b] + row[POTS + b];
        }

        int widthOf(int w) {
            return row[WIDTH + w];
        }

        int rentOf(int w) {
            return row[RENT + w];
        }

        int guestOf(int w) {
            return row[GUEST + w];
        }

        int freeWalls() {
            return (1 << plan.walls) - 1 & ~row[TAKEN];
        }

        void givePots(int b, int many) {
            row[POTS + b] = many;
        }

        void setRent(int w, int rent) {
            row[RENT + w] = rent;
        }

        void setWidth(int w, int width) {
            row[WIDTH + w] = width;
        }

        void sendBack(int b) {
            sendOff(b);
            row[HOMEWARD] |= 1 << b;
        }

        void lose(int b) {
            move(b, LOST);
        }

        private void sendOff(int b) {
            move(b, SEA);
            row[LEFT + b] = plan.ship[Plan.VOYAGE];
        }

        private void hang(int b, int w) {
            move(b, WALL);
            row[HUNG + b] = w;
            row[GUEST + w] = b;
            row[TAKEN] |= 1 << w;
        }

        private void move(int b, int to) {
            int bit = 1 << b;
            row[THOSE_AT + row[PLACE + b]] &= ~bit;
            row[THOSE_AT + to] |= bit;
            row[PLACE + b] = to;
            row[LEFT + b] = 0;
            row[HOMEWARD] &= ~bit;
            int w = row[HUNG + b];
            if (w != NONE) {
                row[HUNG + b] = NONE;
                row[GUEST + w] = NONE;
                row[TAKEN] &= ~(1 << w);
            }
        }

        void passDays(int many) {
            for (int i = 0; i < many; i++) {
                passDay();
            }
        }

        void passDay() {
            int every = plan.ship[Plan.EVERY];
            if (every > 0 && row[DAY] % every == 0) {
                load();
            }
            sailOn();
            hangUp();
            earn();
            row[DAY]++;
        }

        private void load() {
            int room = plan.ship[Plan.HOLD];
            for (int b = 0; b < plan.balconies; b++) {
                // the weight is asked first, as the rule may be long
                if (row[PLACE + b] == HOME && weightOf(b) <= room && wouldGo(b)) {
                    room -= weightOf(b);
                    sendOff(b);
                }
            }
        }

        private void sailOn() {
            if (row[THOSE_AT + SEA] == 0) {
                return;
            }
            for (int b = 0; b < plan.balconies; b++) {
                if (row[PLACE + b] != SEA) {
                    continue;
                }
                row[LEFT + b]--;
                if (row[LEFT + b] <= 0) {
                    move(b, (row[HOMEWARD] >> b & 1) != 0 ? HOME : QUAY);
                }
            }
        }

        private void hangUp() {
            if (row[THOSE_AT + QUAY] == 0) {
                return;
            }
            for (int b = 0; b < plan.balconies; b++) {
                int w = row[PLACE + b] == QUAY ? narrowestFor(b) : NONE;
                if (w != NONE) {
                    hang(b, w);
                }
            }
        }

        private int narrowestFor(int b) {
            int found = NONE;
            int least = WIDEST + 1;
            for (int w = 0; w < plan.walls; w++) {
                int width = row[WIDTH + w];
                if (row[GUEST + w] == NONE && width >= plan.width[b] && width < least) {
                    found = w;
                    least = width;
                }
            }
            return found;
        }

        private void earn() {
            if (row[THOSE_AT + WALL] == 0) {
                return;
            }
            for (int b = 0; b < plan.balconies; b++) {
                int w = row[HUNG + b];
                if (w != NONE) {
                    int money = MONEY + plan.street[b];
                    row[money] = Math.min(MOST_MONEY, row[money] + row[RENT + w] + row[POTS + b]);
                }
            }
        }

        /** Whether the rule takes a balcony now, as if it were at home. */
        boolean wouldGo(int b) {
            if (plan.ruleLength == 0) {
                return plan.timesOn(row[DAY]) < Plan.USUAL_TIMES;
            }
            int top = 0;
            for (int i = 0; i < plan.ruleLength; i++) {
                int sign = plan.rule[i];
                if (sign < Sign.NOT && top >= 2) {
                    top--;
                    pile[top - 1] = Sign.join(sign, pile[top - 1], pile[top]);
                } else if (sign == Sign.NOT && top >= 1) {
                    pile[top - 1] = pile[top - 1] == 0 ? 1 : 0;
                } else if (top < HIGHEST) {
                    pile[top] = sign >= 0 ? sign : valueOf(sign, b);
                    top++;
                }
            }
            return pile[0] > 0;
        }

        private int valueOf(int sign, int b) {
            int gone = ~row[THOSE_AT + HOME];
            switch (sign) {
                case Sign.TIMES: return plan.timesOn(row[DAY]);
                case Sign.POTS: return row[POTS + b];
                case Sign.IRON: return plan.iron[b];
                case Sign.GONE: return Integer.bitCount(plan.streetBits[plan.street[b]] & gone & ~(1 << b));
                case Sign.BESIDE: return Integer.bitCount(plan.besideBits[b] & gone);
                // at home it would leave its wall free
                case Sign.FREE: return Integer.bitCount(freeWalls()) + (row[HUNG + b] == NONE ? 0 : 1);
                case Sign.DAY: return row[DAY];
                default: return 0;
            }
        }

        int daysUntilGone(int b, int last) {
            for (int day = 0; day <= last; day++) {
                if (row[PLACE + b] != HOME) {
                    return day;
                }
                passDay();
            }
            return NONE;
        }

        int daysUntilHung(int b) {
            for (int day = 0; day <= FARTHEST; day++) {
                if (row[PLACE + b] == WALL) {
                    return day;
                }
                passDay();
            }
            return NONE;
        }

        int daysUntilEmpty(int street) {
            for (int day = 0; day <= FARTHEST; day++) {
                if ((plan.streetBits[street] & row[THOSE_AT + HOME]) == 0) {
                    return day;
                }
                passDay();
            }
            return NONE;
        }

        int homesick(int street) {
            int all = plan.streetBits[street];
            return Integer.bitCount(all & row[THOSE_AT + HOME]) - Integer.bitCount(all & ~row[THOSE_AT + HOME]);
        }

        int partedCouples() {
            int home = row[THOSE_AT + HOME];
            int couples = 0;
            for (int b = 0; b < plan.balconies; b++) {
                if ((home >> b & 1) != 0) {
                    couples += Integer.bitCount(plan.besideBits[b] & ~home);
                }
            }
            return couples;
        }

        int asBefore() {
            int couples = 0;
            for (int b = 0; b < plan.balconies; b++) {
                for (int c = b + 1; c < plan.balconies; c++) {
                    boolean beside = (plan.besideBits[b] >> c & 1) != 0;
                    if (beside && row[HUNG + b] != NONE && row[HUNG + c] != NONE
                        && Math.abs(row[HUNG + b] - row[HUNG + c]) == 1) {
                        couples++;
                    }
                }
            }
            return couples;
        }

        int richestStreet() {
            int most = 0;
            int first = NONE;
            for (int s = 0; s < STREETS; s++) {
                if (row[MONEY + s] > most) {
                    most = row[MONEY + s];
                    first = s;
                }
            }
            return first;
        }

        int weightAtSea() {
            int sum = 0;
            for (int b = 0; b < plan.balconies; b++) {
                sum += row[PLACE + b] == SEA ? weightOf(b) : 0;
            }
            return sum;
        }

        int potsAtSea() {
            int sum = 0;
            for (int b = 0; b < plan.balconies; b++) {
                sum += row[PLACE + b] == SEA ? row[POTS + b] : 0;
            }
            return sum;
        }

        /** A couple of choices: bit 1 whether b goes to the wall, bit 0 whether the other one c does. */
        boolean rests(int b, int c, int w, int couple) {
            boolean goes = (couple & 2) != 0;
            boolean comes = (couple & 1) != 0;
            return gain(b, c, w, goes, comes) >= gain(b, c, w, !goes, comes)
                && gain(c, b, w, comes, goes) >= gain(c, b, w, !comes, goes);
        }

        private int gain(int b, int other, int w, boolean goes, boolean otherGoes) {
            if (!goes) {
                return row[HUNG + b] == NONE ? 0 : row[RENT + row[HUNG + b]];
            }
            int prize = row[WIDTH + w] >= plan.width[b] ? row[RENT + w] : 0;
            if (!otherGoes) {
                return prize;
            }
            return row[POTS + b] > row[POTS + other] ? prize - 5 : 0;
        }

        void passStorms(int seed, int many) {
            int state = seed;
            for (int day = 0; day < many; day++) {
                if (plan.balconies > 0) {
                    state = nextSeed(state);
                    if (draw(state, 6) == 0) {
                        state = nextSeed(state);
                        strike(draw(state, plan.balconies));
                    }
                }
                passDay();
            }
        }

        private static int nextSeed(int seed) {
            return seed * 1103515245 + 12345;
        }

        private static int draw(int seed, int many) {
            return many > 0 ? (seed >> 16 & 32767) % many : 0;
        }

        private void strike(int b) {
            if (row[PLACE + b] == SEA) {
                lose(b);
            }
        }
    }

    /** The acts that are kept: of each how all was ahead of it, the latest ones in a ring. */
    private static final class Acts {
        static final int KEPT = 40;

        final int[] rows = new int[KEPT * Scene.SIZE];
        int size;
        private int next;

        void clear() {
            size = 0;
            next = 0;
        }

        void copyFrom(Acts other) {
            size = other.size;
            next = other.next;
            System.arraycopy(other.rows, 0, rows, 0, rows.length);
        }

        void push(Scene scene) {
            System.arraycopy(scene.row, 0, rows, next * Scene.SIZE, Scene.SIZE);
            next = next + 1 == KEPT ? 0 : next + 1;
            size = Math.min(KEPT, size + 1);
        }

        void pop(Scene scene) {
            next = next == 0 ? KEPT - 1 : next - 1;
            size--;
            System.arraycopy(rows, next * Scene.SIZE, scene.row, 0, Scene.SIZE);
        }
    }

    /** What customs saw: so many pots at sea, at the end of a day from now. */
    private static final class Seen {
        static final int KEPT = 8;

        int size;
        final int[] day = new int[KEPT];
        final int[] pots = new int[KEPT];

        void copyFrom(Seen other) {
            size = other.size;
            System.arraycopy(other.day, 0, day, 0, KEPT);
            System.arraycopy(other.pots, 0, pots, 0, KEPT);
        }

        boolean add(int days, int many) {
            if (size >= KEPT || days < 1 || days > FARTHEST_SEEN || many < 0 || many > 99) {
                return false;
            }
            day[size] = days;
            pots[size] = many;
            size++;
            return true;
        }

        int lastDay() {
            int last = 0;
            for (int i = 0; i < size; i++) {
                last = Math.max(last, day[i]);
            }
            return last;
        }

        boolean allows(int days, int many) {
            for (int i = 0; i < size; i++) {
                if (day[i] == days && pots[i] != many) {
                    return false;
                }
            }
            return true;
        }
    }

    /** All that an image keeps. */
    private static final class Stand {
        static final int TEXTS = 0;
        static final int ACTS = 1;
        static final int SEEN = 2;

        final Scene scene;
        final Acts acts = new Acts();
        final Seen seen = new Seen();
        final int[] status = new int[3];

        Stand(Plan plan) {
            scene = new Scene(plan);
        }

        void begin() {
            scene.begin();
            acts.clear();
            seen.size = 0;
        }

        void copyFrom(Stand other) {
            scene.copyFrom(other.scene);
            acts.copyFrom(other.acts);
            seen.copyFrom(other.seen);
            System.arraycopy(other.status, 0, status, 0, 3);
        }

        void keepAct() {
            acts.push(scene);
        }

        int undoAct() {
            if (acts.size == 0) {
                return NONE;
            }
            acts.pop(scene);
            return acts.size;
        }
    }

    /** What goes into the holds of ships: every row of balconies is looked at, as there are 1024 at most. */
    private static final class Stowage {
        final Plan plan;
        int cargoPots;
        int cargoBits;
        private final int[] sums = new int[1 << MOST];

        Stowage(Plan plan) {
            this.plan = plan;
        }

        int fewestHolds(Scene scene) {
            int home = scene.thoseAt(HOME);
            int hold = plan.ship[Plan.HOLD];
            for (int b = 0; b < plan.balconies; b++) {
                if ((home >> b & 1) != 0 && scene.weightOf(b) > hold) {
                    return NONE;
                }
            }
            // of each row the fewest holds and then the least in the last of them: 128 by the holds, and that
            sums[0] = hold;
            for (int bits = 1; bits <= home; bits++) {
                if ((bits & ~home) == 0) {
                    sums[bits] = leastWithLast(scene, bits, hold);
                }
            }
            return sums[home] >> 7;
        }

        private int leastWithLast(Scene scene, int bits, int hold) {
            int least = Integer.MAX_VALUE;
            for (int b = 0; b < plan.balconies; b++) {
                if ((bits >> b & 1) != 0) {
                    int before = sums[bits & ~(1 << b)];
                    int weight = scene.weightOf(b);
                    boolean goesIn = (before & 127) + weight <= hold;
                    least = Math.min(least, goesIn ? before + weight : ((before >> 7) + 1 << 7) + weight);
                }
            }
            return least;
        }

        void fillOneHold(Scene scene) {
            int home = scene.thoseAt(HOME);
            cargoPots = 0;
            cargoBits = 0;
            // of each row the weight and the pots: 128 by the weight, and the pots
            sums[0] = 0;
            for (int bits = 1; bits <= home; bits++) {
                if ((bits & ~home) == 0) {
                    int b = Integer.numberOfTrailingZeros(bits);
                    sums[bits] = sums[bits & bits - 1] + (scene.weightOf(b) << 7) + scene.potsOf(b);
                    compareCargo(bits);
                }
            }
        }

        private void compareCargo(int bits) {
            int pots = sums[bits] & 127;
            if (sums[bits] >> 7 > plan.ship[Plan.HOLD] || pots < cargoPots) {
                return;
            }
            if (pots > cargoPots || Integer.bitCount(bits) < Integer.bitCount(cargoBits)) {
                cargoPots = pots;
                cargoBits = bits;
            }
        }
    }

    /** Which walls over there suit all that are there. */
    private static final class Fitting {
        final Plan plan;
        final int[] given = new int[MOST];
        int mostRent;
        private final int[] order = new int[MOST];
        private final int[] spare = new int[WIDEST + 1];

        Fitting(Plan plan) {
            this.plan = plan;
        }

        /** Balcony by balcony the first wall with which the most rent can still be had. */
        void share(Scene scene) {
            orderByWidth();
            int waiting = scene.thoseOver();
            int free = (1 << plan.walls) - 1;
            mostRent = rentOf(scene, waiting, free);
            int rest = mostRent;
            for (int b = 0; b < plan.balconies; b++) {
                given[b] = NONE;
                if ((waiting >> b & 1) == 0) {
                    continue;
                }
                waiting &= ~(1 << b);
                int w = firstWall(scene, b, waiting, free, rest);
                if (w != NONE) {
                    given[b] = w;
                    free &= ~(1 << w);
                    rest -= scene.rentOf(w);
                }
            }
        }

        private int firstWall(Scene scene, int b, int others, int free, int rest) {
            for (int w = 0; w < plan.walls; w++) {
                if ((free >> w & 1) != 0 && scene.widthOf(w) >= plan.width[b]
                    && scene.rentOf(w) + rentOf(scene, others, free & ~(1 << w)) == rest) {
                    return w;
                }
            }
            return NONE;
        }

        private void orderByWidth() {
            for (int b = 0; b < plan.balconies; b++) {
                int at = b;
                while (at > 0 && plan.width[order[at - 1]] < plan.width[b]) {
                    order[at] = order[at - 1];
                    at--;
                }
                order[at] = b;
            }
        }

        /**
         * The most rent: the widest one takes the dearest wall that suits it. That is never too dear,
         * as all walls that suit a wide one suit every narrower one, too, so any two can change places.
         */
        private int rentOf(Scene scene, int waiting, int free) {
            int sum = 0;
            int left = free;
            for (int i = 0; i < plan.balconies; i++) {
                int b = order[i];
                int w = (waiting >> b & 1) != 0 ? dearest(scene, plan.width[b], left) : NONE;
                if (w != NONE) {
                    sum += scene.rentOf(w);
                    left &= ~(1 << w);
                }
            }
            return sum;
        }

        private int dearest(Scene scene, int width, int free) {
            int found = NONE;
            int most = NONE;
            for (int w = 0; w < plan.walls; w++) {
                if ((free >> w & 1) != 0 && scene.widthOf(w) >= width && scene.rentOf(w) > most) {
                    found = w;
                    most = scene.rentOf(w);
                }
            }
            return found;
        }

        int fewestWidened(Scene scene) {
            int found = NONE;
            int fewest = MOST + 1;
            int all = 1 << plan.walls;
            for (int bits = 0; bits < all; bits++) {
                int many = Integer.bitCount(bits);
                if (many < fewest && hasRoomForAll(scene, bits)) {
                    found = bits;
                    fewest = many;
                }
            }
            return found;
        }

        /** All can hang if, for each width, as many walls are as wide as there are balconies as wide. */
        private boolean hasRoomForAll(Scene scene, int widened) {
            Arrays.fill(spare, 0);
            for (int w = 0; w < plan.walls; w++) {
                spare[(widened >> w & 1) != 0 ? WIDEST : scene.widthOf(w)]++;
            }
            int over = scene.thoseOver();
            for (int b = 0; b < plan.balconies; b++) {
                spare[plan.width[b]] -= over >> b & 1;
            }
            int sum = 0;
            for (int width = WIDEST; width >= 1 && sum >= 0; width--) {
                sum += spare[width];
            }
            return sum >= 0;
        }
    }

    /** Whose pots were counted wrong, if what customs saw is so. */
    private static final class Customs {
        // pots at sea are 90 at most, so two longs a day hold which numbers there were
        static final int LONGS = 2;

        final Plan plan;
        final Scene trial;
        int found;
        int first;
        int lookDay;
        int unlike;
        private final int[] atSea = new int[FARTHEST_SEEN + 1];
        private final long[] numbers = new long[LONGS * (FARTHEST_SEEN + 1)];

        Customs(Plan plan, Scene trial) {
            this.plan = plan;
            this.trial = trial;
        }

        boolean isSoWithout(Stand now) {
            trial.copyFrom(now.scene);
            return isSo(now.seen, now.seen.lastDay());
        }

        /** Finds all, and which numbers of pots at sea they give, day by day up to the last one asked. */
        void findWrong(Stand now, int lastDay) {
            found = 0;
            first = NONE;
            Arrays.fill(numbers, 0L);
            for (int b = 0; b < plan.balconies; b++) {
                for (int many = 0; many <= MOST_POTS; many++) {
                    trial.copyFrom(now.scene);
                    trial.givePots(b, many);
                    if (many != now.scene.potsOf(b) && isSo(now.seen, lastDay)) {
                        note(10 * b + many, lastDay);
                    }
                }
            }
        }

        private void note(int which, int lastDay) {
            first = found == 0 ? which : first;
            found++;
            for (int day = 1; day <= lastDay && day <= FARTHEST_SEEN; day++) {
                numbers[LONGS * day + (atSea[day] >> 6)] |= 1L << (atSea[day] & 63);
            }
        }

        private boolean isSo(Seen seen, int lastDay) {
            for (int day = 1; day <= lastDay && day <= FARTHEST_SEEN; day++) {
                trial.passDay();
                atSea[day] = trial.potsAtSea();
                if (!seen.allows(day, atSea[day])) {
                    return false;
                }
            }
            return true;
        }

        void findUnlike() {
            lookDay = NONE;
            unlike = 0;
            for (int day = 1; day <= FARTHEST_SEEN; day++) {
                int many = Long.bitCount(numbers[LONGS * day]) + Long.bitCount(numbers[LONGS * day + 1]);
                if (many > unlike) {
                    unlike = many;
                    lookDay = day;
                }
            }
        }
    }
}
