import java.util.ArrayList;
import java.util.Arrays;
import java.util.HashMap;
import java.util.HashSet;
import java.util.List;
import java.util.Map;
import java.util.NoSuchElementException;
import java.util.Set;
import java.util.TreeSet;

/** The document once more, written for being plain and not for being quick, to hold the class against. */
final class Model {
    static final class Fault extends RuntimeException {
        private static final long serialVersionUID = 1L;
        final int kind;
        final int place;

        Fault(int kind, int place) {
            this.kind = kind;
            this.place = place;
        }
    }

    interface Expr {
        int value(World world, int balcony);
    }

    record Token(String text, int place) {
        boolean isWord() {
            return text.matches("[a-z]+");
        }

        boolean isNumber() {
            return text.matches("[0-9]+");
        }
    }

    static final class Balcony {
        int iron;
        int width;
        int pots;
        int street;
        int place;
        int wall = -1;
        int toGo;
        boolean homeward;

        Balcony copy() {
            Balcony b = new Balcony();
            b.iron = iron;
            b.width = width;
            b.pots = pots;
            b.street = street;
            b.place = place;
            b.wall = wall;
            b.toGo = toGo;
            b.homeward = homeward;
            return b;
        }
    }

    static final class World {
        List<Balcony> balconies = new ArrayList<>();
        List<int[]> walls = new ArrayList<>();
        int[] ship = {30, 3, 2};
        List<Integer> times = new ArrayList<>();
        Expr goes;
        int day;
        int[] money = new int[4];

        World copy() {
            World w = new World();
            for (Balcony b : balconies) {
                w.balconies.add(b.copy());
            }
            for (int[] wall : walls) {
                w.walls.add(wall.clone());
            }
            w.ship = ship;
            w.times = times;
            w.goes = goes;
            w.day = day;
            w.money = money.clone();
            return w;
        }

        int timesNow() {
            return times.isEmpty() ? 5 : times.get(day % times.size());
        }

        int guest(int wall) {
            for (int b = 0; b < balconies.size(); b++) {
                if (balconies.get(b).place == 3 && balconies.get(b).wall == wall) {
                    return b;
                }
            }
            return -1;
        }

        int vacant() {
            int bits = 0;
            for (int w = 0; w < walls.size(); w++) {
                bits |= guest(w) < 0 ? 1 << w : 0;
            }
            return bits;
        }

        boolean areBeside(int a, int b) {
            int low = Math.min(a, b);
            int high = Math.max(a, b);
            if (low == high || balconies.get(low).street != balconies.get(high).street) {
                return false;
            }
            for (int between = low + 1; between < high; between++) {
                if (balconies.get(between).street == balconies.get(low).street) {
                    return false;
                }
            }
            return true;
        }

        boolean goesNow(int b) {
            if (goes == null) {
                return timesNow() < 5;
            }
            World home = copy();
            home.balconies.get(b).place = 0;
            home.balconies.get(b).wall = -1;
            return goes.value(home, b) > 0;
        }

        World days(int many) {
            for (int i = 0; i < many; i++) {
                day();
            }
            return this;
        }

        void day() {
            if (day % ship[1] == 0) {
                int left = ship[0];
                for (int i = 0; i < balconies.size(); i++) {
                    Balcony b = balconies.get(i);
                    if (b.place == 0 && goesNow(i) && b.iron + b.pots <= left) {
                        left -= b.iron + b.pots;
                        b.place = 1;
                        b.toGo = ship[2];
                        b.homeward = false;
                    }
                }
            }
            for (Balcony b : balconies) {
                if (b.place == 1) {
                    b.toGo--;
                    if (b.toGo == 0) {
                        b.place = b.homeward ? 0 : 2;
                    }
                }
            }
            for (Balcony b : balconies) {
                if (b.place == 2) {
                    hang(b);
                }
            }
            for (Balcony b : balconies) {
                if (b.place == 3) {
                    money[b.street] = Math.min(99999, money[b.street] + walls.get(b.wall)[1] + b.pots);
                }
            }
            day++;
        }

        void hang(Balcony b) {
            for (int width = b.width; width <= 9; width++) {
                for (int w = 0; w < walls.size(); w++) {
                    if (walls.get(w)[0] == width && guest(w) < 0) {
                        b.place = 3;
                        b.wall = w;
                        return;
                    }
                }
            }
        }

        int bits(int place) {
            int bits = 0;
            for (int b = 0; b < balconies.size(); b++) {
                bits |= balconies.get(b).place == place ? 1 << b : 0;
            }
            return bits;
        }

        int atSea(boolean withIron) {
            int sum = 0;
            for (Balcony b : balconies) {
                sum += b.place == 1 ? b.pots + (withIron ? b.iron : 0) : 0;
            }
            return sum;
        }

        List<Integer> over() {
            List<Integer> over = new ArrayList<>();
            for (int b = 0; b < balconies.size(); b++) {
                if (balconies.get(b).place == 2 || balconies.get(b).place == 3) {
                    over.add(b);
                }
            }
            return over;
        }
    }

    /** Tokens first, then the grammar over them. */
    static final class Parser {
        final List<Token> tokens = new ArrayList<>();
        final World world = new World();
        final Set<String> once = new HashSet<>();
        int at = 0;

        Parser(String text) {
            int i = 0;
            while (i < text.length()) {
                char c = text.charAt(i);
                int j = i + 1;
                if (c >= 'a' && c <= 'z') {
                    while (j < text.length() && text.charAt(j) >= 'a' && text.charAt(j) <= 'z') {
                        j++;
                    }
                } else if (c >= '0' && c <= '9') {
                    while (j < text.length() && text.charAt(j) >= '0' && text.charAt(j) <= '9') {
                        j++;
                    }
                }
                if (c != 32 && c != 10) {
                    tokens.add(new Token(text.substring(i, j), i));
                }
                i = j;
            }
            tokens.add(new Token("", text.length()));
        }

        Token token() {
            return tokens.get(at);
        }

        boolean is(String text) {
            return token().text().equals(text);
        }

        Fault fault(int kind) {
            return new Fault(kind, token().place());
        }

        void expect(String sign) {
            if (!is(sign)) {
                throw fault(1);
            }
            at++;
        }

        int number(int least, int most) {
            if (!token().isNumber()) {
                throw fault(1);
            }
            String digits = token().text();
            if (digits.length() > 4 || Integer.parseInt(digits) < least || Integer.parseInt(digits) > most) {
                throw fault(2);
            }
            at++;
            return Integer.parseInt(digits);
        }

        World parse() {
            while (!token().text().isEmpty()) {
                line();
            }
            return world;
        }

        void line() {
            String word = token().text();
            if (!List.of("balcony", "wall", "ship", "times", "goes").contains(word)) {
                throw fault(1);
            }
            if (word.equals("balcony") && world.balconies.size() == 10 || word.equals("wall") && world.walls.size() == 10) {
                throw fault(2);
            }
            if (!word.equals("balcony") && !word.equals("wall") && !once.add(word)) {
                throw fault(5);
            }
            at++;
            switch (word) {
                case "balcony" -> {
                    Balcony b = new Balcony();
                    b.iron = number(1, 20);
                    b.width = number(1, 9);
                    b.pots = number(0, 9);
                    b.street = number(0, 3);
                    world.balconies.add(b);
                }
                case "wall" -> world.walls.add(new int[] {number(1, 9), number(0, 20)});
                case "ship" -> world.ship = new int[] {number(1, 99), number(1, 9), number(1, 9)};
                case "times" -> {
                    world.times.add(number(0, 9));
                    while (token().isNumber()) {
                        if (world.times.size() == 10) {
                            throw fault(2);
                        }
                        world.times.add(number(0, 9));
                    }
                }
                default -> world.goes = expr(0);
            }
            expect(";");
        }

        Expr expr(int within) {
            if (within == 6 && (token().isNumber() || token().isWord() || is("("))) {
                throw fault(2);
            }
            Expr left = and(within);
            while (is("or")) {
                at++;
                Expr a = left;
                Expr b = and(within);
                left = (w, i) -> a.value(w, i) != 0 | b.value(w, i) != 0 ? 1 : 0;
            }
            return left;
        }

        Expr and(int within) {
            Expr left = not(within, 0);
            while (is("and")) {
                at++;
                Expr a = left;
                Expr b = not(within, 0);
                left = (w, i) -> a.value(w, i) != 0 & b.value(w, i) != 0 ? 1 : 0;
            }
            return left;
        }

        Expr not(int within, int nots) {
            if (is("not")) {
                if (nots == 6) {
                    throw fault(2);
                }
                at++;
                Expr a = not(within, nots + 1);
                return (w, i) -> a.value(w, i) != 0 ? 0 : 1;
            }
            Expr a = sum(within);
            if (is("<")) {
                at++;
                Expr b = sum(within);
                return (w, i) -> a.value(w, i) < b.value(w, i) ? 1 : 0;
            }
            if (is("=")) {
                at++;
                Expr b = sum(within);
                return (w, i) -> a.value(w, i) == b.value(w, i) ? 1 : 0;
            }
            return a;
        }

        Expr sum(int within) {
            Expr left = product(within);
            while (is("+") || is("-")) {
                int sign = is("+") ? 1 : -1;
                at++;
                Expr a = left;
                Expr b = product(within);
                left = (w, i) -> a.value(w, i) + sign * b.value(w, i);
            }
            return left;
        }

        Expr product(int within) {
            Expr left = part(within);
            while (is("*") || is("/")) {
                boolean times = is("*");
                at++;
                Expr a = left;
                Expr b = part(within);
                left = (w, i) -> times ? a.value(w, i) * b.value(w, i)
                    : b.value(w, i) == 0 ? 0 : a.value(w, i) / b.value(w, i);
            }
            return left;
        }

        Expr part(int within) {
            if (token().isNumber()) {
                int number = number(0, 9999);
                return (w, i) -> number;
            }
            if (is("(")) {
                at++;
                Expr inner = expr(within + 1);
                expect(")");
                return inner;
            }
            if (!token().isWord()) {
                throw fault(1);
            }
            Expr value = value(token().text());
            at++;
            return value;
        }

        Expr value(String word) {
            return switch (word) {
                case "times" -> (w, i) -> w.timesNow();
                case "pots" -> (w, i) -> w.balconies.get(i).pots;
                case "iron" -> (w, i) -> w.balconies.get(i).iron;
                case "gone" -> (w, i) -> {
                    int gone = 0;
                    for (int j = 0; j < w.balconies.size(); j++) {
                        boolean other = j != i && w.balconies.get(j).street == w.balconies.get(i).street;
                        gone += other && w.balconies.get(j).place != 0 ? 1 : 0;
                    }
                    return gone;
                };
                case "beside" -> (w, i) -> {
                    int gone = 0;
                    for (int j = 0; j < w.balconies.size(); j++) {
                        gone += w.areBeside(i, j) && w.balconies.get(j).place != 0 ? 1 : 0;
                    }
                    return gone;
                };
                case "free" -> (w, i) -> Integer.bitCount(w.vacant());
                case "day" -> (w, i) -> w.day;
                default -> throw fault(3);
            };
        }
    }

    record Image(World world, List<World> acts, List<int[]> seen, int[] status) {
    }

    private StringBuilder tape = new StringBuilder();
    private int faultPlace = -1;
    private World world = new World();
    private List<World> acts = new ArrayList<>();
    private List<int[]> seen = new ArrayList<>();
    private int[] status = new int[3];
    private Image image;

    int feed(int... five) {
        if (tape.length() + 20 > 700) {
            return -1;
        }
        for (int number : five) {
            for (int shift = 24; shift >= 0; shift -= 8) {
                tape.append((char) (number >>> shift & 255));
            }
        }
        return tape.length();
    }

    int port(int n) {
        if (n < 0 || n > tape.length()) {
            throw new IllegalArgumentException();
        }
        String text = tape.substring(0, n);
        tape = new StringBuilder();
        try {
            world = new Parser(text).parse();
        } catch (Fault fault) {
            faultPlace = fault.place;
            status[0]++;
            return fault.kind;
        }
        faultPlace = -1;
        acts.clear();
        seen.clear();
        image = null;
        return 0;
    }

    int fault() {
        return faultPlace;
    }

    private static void need(boolean so) {
        if (!so) {
            throw new NoSuchElementException();
        }
    }

    private static void needDays(int days) {
        if (days < 0 || days > 60) {
            throw new IllegalArgumentException();
        }
    }

    private Balcony at(int b) {
        need(b >= 0 && b < world.balconies.size());
        return world.balconies.get(b);
    }

    private int[] wallAt(int w) {
        need(w >= 0 && w < world.walls.size());
        return world.walls.get(w);
    }

    private void needStreet(int s) {
        need(s >= 0 && s < 4);
    }

    private static void needWhat(int what, int last) {
        need(what >= 0 && what <= last);
    }

    int count(int what) {
        needWhat(what, 18);
        int[] first = {world.balconies.size(), world.walls.size(), world.ship[0], world.ship[1], world.ship[2], world.day,
            world.timesNow(), world.bits(0), world.bits(1), world.bits(2), world.bits(3), world.bits(4), asBefore(),
            acts.size(), seen.size(), tape.length(), status[0], status[1], status[2]};
        return first[what];
    }

    private int asBefore() {
        int many = 0;
        for (int a = 0; a < world.balconies.size(); a++) {
            for (int b = 0; b < a; b++) {
                Balcony x = world.balconies.get(a);
                Balcony y = world.balconies.get(b);
                boolean next = x.wall - y.wall == 1 || y.wall - x.wall == 1;
                many += world.areBeside(a, b) && x.place == 3 && y.place == 3 && next ? 1 : 0;
            }
        }
        return many;
    }

    int balcony(int balcony, int what) {
        Balcony b = at(balcony);
        needWhat(what, 7);
        return new int[] {b.iron, b.width, b.pots, b.street, b.place, b.place == 3 ? b.wall : -1, b.place == 1 ? b.toGo : 0,
            world.goesNow(balcony) ? 1 : 0}[what];
    }

    int wall(int wall, int what) {
        int[] w = wallAt(wall);
        needWhat(what, 2);
        return what == 2 ? world.guest(wall) : w[what];
    }

    int street(int street, int what) {
        needStreet(street);
        needWhat(what, 2);
        int bits = 0;
        int homesick = 0;
        for (int b = 0; b < world.balconies.size(); b++) {
            if (world.balconies.get(b).street == street) {
                bits |= 1 << b;
                homesick += world.balconies.get(b).place == 0 ? 1 : -1;
            }
        }
        return new int[] {world.money[street], bits, homesick}[what];
    }

    private boolean act(boolean allowed) {
        if (!allowed) {
            status[1]++;
            return false;
        }
        acts.add(world.copy());
        if (acts.size() > 40) {
            acts.remove(0);
        }
        return true;
    }

    int days(int many) {
        if (!act(many >= 1 && many <= 20 && world.day + many <= 999)) {
            return -1;
        }
        return world.days(many).day;
    }

    int pots(int balcony, int many) {
        int before = at(balcony).pots;
        if (!act(many >= 0 && many <= 9)) {
            return -1;
        }
        at(balcony).pots = many;
        return before;
    }

    int rent(int wall, int rent) {
        int before = wallAt(wall)[1];
        if (!act(rent >= 0 && rent <= 20)) {
            return -1;
        }
        wallAt(wall)[1] = rent;
        return before;
    }

    int widen(int wall, int width) {
        int before = wallAt(wall)[0];
        if (!act(width >= 1 && width <= 9)) {
            return -1;
        }
        wallAt(wall)[0] = width;
        return before;
    }

    boolean back(int balcony) {
        Balcony b = at(balcony);
        if (!act(b.place == 2 || b.place == 3)) {
            return false;
        }
        b.place = 1;
        b.homeward = true;
        b.toGo = world.ship[2];
        return true;
    }

    boolean sweep(int balcony) {
        Balcony b = at(balcony);
        if (!act(b.place != 4)) {
            return false;
        }
        b.place = 4;
        return true;
    }

    int undo() {
        if (acts.isEmpty()) {
            return -1;
        }
        // an image may hold it, too, so what goes on is a copy
        world = acts.remove(acts.size() - 1).copy();
        return acts.size();
    }

    int where(int balcony, int days, int what) {
        at(balcony);
        needWhat(what, 1);
        needDays(days);
        Balcony then = world.copy().days(days).balconies.get(balcony);
        return what == 0 ? then.place : then.place == 3 ? then.wall : -1;
    }

    private static int sailsIn(World from, int balcony) {
        for (int d = 0; d <= 60; d++) {
            if (from.copy().days(d).balconies.get(balcony).place != 0) {
                return d;
            }
        }
        return -1;
    }

    int sails(int balcony) {
        at(balcony);
        return sailsIn(world, balcony);
    }

    int hangs(int balcony) {
        at(balcony);
        World w = world.copy();
        for (int d = 0; d <= 60; d++) {
            if (w.balconies.get(balcony).place == 3) {
                return d;
            }
            w.day();
        }
        return -1;
    }

    int earned(int street, int days) {
        needStreet(street);
        needDays(days);
        return world.copy().days(days).money[street] - world.money[street];
    }

    int empty(int street) {
        needStreet(street);
        World w = world.copy();
        for (int d = 0; d <= 60; d++) {
            boolean any = false;
            for (Balcony b : w.balconies) {
                any |= b.street == street && b.place == 0;
            }
            if (!any) {
                return d;
            }
            w.day();
        }
        return -1;
    }

    int follows(int balcony) {
        at(balcony);
        World with = world.copy().days(20);
        World without = world.copy();
        without.balconies.get(balcony).place = 4;
        without.days(20);
        int bits = 0;
        for (int b = 0; b < world.balconies.size(); b++) {
            boolean follows = with.balconies.get(b).place == 0 && without.balconies.get(b).place != 0;
            bits |= b != balcony && follows ? 1 << b : 0;
        }
        return bits;
    }

    int beside(int balcony) {
        at(balcony);
        int bits = 0;
        for (int b = 0; b < world.balconies.size(); b++) {
            bits |= world.areBeside(balcony, b) ? 1 << b : 0;
        }
        return bits;
    }

    int parted() {
        int many = 0;
        for (int a = 0; a < world.balconies.size(); a++) {
            for (int b = 0; b < a; b++) {
                boolean one = world.balconies.get(a).place == 0 ^ world.balconies.get(b).place == 0;
                many += world.areBeside(a, b) && one ? 1 : 0;
            }
        }
        return many;
    }

    int richest(int days) {
        needDays(days);
        int[] money = world.copy().days(days).money;
        int most = Arrays.stream(money).max().getAsInt();
        for (int s = 0; s < 4; s++) {
            if (most > 0 && money[s] == most) {
                return s;
            }
        }
        return -1;
    }

    int waiting(int days) {
        needDays(days);
        return Integer.bitCount(world.copy().days(days).bits(2));
    }

    int vacant(int days) {
        needDays(days);
        return world.copy().days(days).vacant();
    }

    int fullest(int what) {
        needWhat(what, 1);
        int[] weights = new int[61];
        for (int d = 1; d <= 60; d++) {
            weights[d] = world.copy().days(d).atSea(true);
        }
        int most = Arrays.stream(weights).max().getAsInt();
        if (what == 1 || most == 0) {
            return what == 1 ? most : -1;
        }
        int d = 1;
        while (weights[d] != most) {
            d++;
        }
        return d;
    }

    int mostPots(int balcony) {
        int sails = sails(balcony);
        if (sails < 1) {
            return -1;
        }
        int most = -1;
        for (int many = 0; many <= 9; many++) {
            World w = world.copy();
            w.balconies.get(balcony).pots = many;
            int then = sailsIn(w, balcony);
            most = then != -1 && then <= sails ? many : most;
        }
        return most;
    }

    int ships() {
        List<Integer> weights = new ArrayList<>();
        for (Balcony b : world.balconies) {
            if (b.place == 0) {
                weights.add(b.iron + b.pots);
            }
        }
        for (int holds = 0; holds <= 10; holds++) {
            if (goInto(weights, 0, new int[holds])) {
                return holds;
            }
        }
        return -1;
    }

    private boolean goInto(List<Integer> weights, int i, int[] holds) {
        if (i == weights.size()) {
            return true;
        }
        for (int h = 0; h < holds.length; h++) {
            boolean first = holds[h] == 0;
            if (holds[h] + weights.get(i) <= world.ship[0]) {
                holds[h] += weights.get(i);
                boolean all = goInto(weights, i + 1, holds);
                holds[h] -= weights.get(i);
                if (all) {
                    return true;
                }
            }
            if (first) {
                break;
            }
        }
        return false;
    }

    int cargo(int what) {
        needWhat(what, 1);
        int home = world.bits(0);
        int bestPots = -1;
        int bestBits = 0;
        for (int bits = 1023; bits >= 0; bits--) {
            int weight = 0;
            int pots = 0;
            for (int b = 0; b < world.balconies.size(); b++) {
                Balcony x = world.balconies.get(b);
                weight += (bits >> b & 1) * (x.iron + x.pots);
                pots += (bits >> b & 1) * x.pots;
            }
            if ((bits & home) == bits && weight <= world.ship[0] && (pots > bestPots
                || pots == bestPots && Integer.bitCount(bits) <= Integer.bitCount(bestBits))) {
                bestPots = pots;
                bestBits = bits;
            }
        }
        return what == 0 ? bestPots : bestBits;
    }

    int best(int balcony) {
        if (balcony != -1) {
            at(balcony);
        }
        List<Integer> over = world.over();
        Map<Integer, Integer> memo = new HashMap<>();
        int all = bestFrom(over, 0, 0, memo);
        if (balcony == -1) {
            return all;
        }
        int used = 0;
        for (int i = 0; i < over.size(); i++) {
            int want = bestFrom(over, i, used, memo);
            int chosen = -1;
            for (int w = world.walls.size() - 1; w >= 0; w--) {
                if (suits(over.get(i), w) && (used >> w & 1) == 0
                    && world.walls.get(w)[1] + bestFrom(over, i + 1, used | 1 << w, memo) == want) {
                    chosen = w;
                }
            }
            if (over.get(i) == balcony) {
                return chosen;
            }
            used |= chosen >= 0 ? 1 << chosen : 0;
        }
        return -1;
    }

    private boolean suits(int balcony, int wall) {
        return world.walls.get(wall)[0] >= world.balconies.get(balcony).width;
    }

    private int bestFrom(List<Integer> over, int i, int used, Map<Integer, Integer> memo) {
        if (i == over.size()) {
            return 0;
        }
        Integer known = memo.get(i << 10 | used);
        if (known != null) {
            return known;
        }
        int best = bestFrom(over, i + 1, used, memo);
        for (int w = 0; w < world.walls.size(); w++) {
            if (suits(over.get(i), w) && (used >> w & 1) == 0) {
                best = Math.max(best, world.walls.get(w)[1] + bestFrom(over, i + 1, used | 1 << w, memo));
            }
        }
        memo.put(i << 10 | used, best);
        return best;
    }

    int widening() {
        int best = -1;
        List<Integer> over = world.over();
        for (int bits = 0; bits < 1 << world.walls.size(); bits++) {
            if (best == -1 || Integer.bitCount(bits) < Integer.bitCount(best)) {
                int[] of = new int[world.walls.size()];
                Arrays.fill(of, -1);
                boolean all = true;
                for (int b : over) {
                    all &= findWall(b, bits, of, new boolean[of.length]);
                }
                best = all ? bits : best;
            }
        }
        return best;
    }

    private boolean findWall(int b, int widened, int[] of, boolean[] tried) {
        for (int w = 0; w < of.length; w++) {
            if (!tried[w] && (suits(b, w) || (widened >> w & 1) != 0)) {
                tried[w] = true;
                if (of[w] < 0 || findWall(of[w], widened, of, tried)) {
                    of[w] = b;
                    return true;
                }
            }
        }
        return false;
    }

    int see(int days, int pots) {
        if (seen.size() == 8 || days < 1 || days > 30 || pots < 0 || pots > 99) {
            status[2]++;
            return -1;
        }
        seen.add(new int[] {days, pots});
        return seen.size();
    }

    private boolean isSo(World from) {
        int[] atSea = potsAtSea(from);
        for (int[] s : seen) {
            if (atSea[s[0]] != s[1]) {
                return false;
            }
        }
        return true;
    }

    private static int[] potsAtSea(World from) {
        World w = from.copy();
        int[] atSea = new int[31];
        for (int d = 1; d <= 30; d++) {
            w.day();
            atSea[d] = w.atSea(false);
        }
        return atSea;
    }

    private Map<Integer, World> countedWrong() {
        Map<Integer, World> all = new HashMap<>();
        for (int b = 0; b < world.balconies.size(); b++) {
            for (int many = 0; many <= 9; many++) {
                World w = world.copy();
                w.balconies.get(b).pots = many;
                if (many != world.balconies.get(b).pots && isSo(w)) {
                    all.put(10 * b + many, w);
                }
            }
        }
        return all;
    }

    int wrong(int what) {
        needWhat(what, 2);
        if (what == 2) {
            return isSo(world) ? 1 : 0;
        }
        TreeSet<Integer> all = new TreeSet<>(countedWrong().keySet());
        return what == 0 ? all.size() : all.isEmpty() ? -1 : all.first();
    }

    int look(int what) {
        needWhat(what, 1);
        List<Set<Integer>> numbers = new ArrayList<>();
        for (int d = 0; d <= 30; d++) {
            numbers.add(new HashSet<>());
        }
        for (World w : countedWrong().values()) {
            int[] atSea = potsAtSea(w);
            for (int d = 1; d <= 30; d++) {
                numbers.get(d).add(atSea[d]);
            }
        }
        int best = 0;
        for (int d = 1; d <= 30; d++) {
            best = numbers.get(d).size() > numbers.get(best).size() ? d : best;
        }
        return what == 1 ? numbers.get(best).size() : best == 0 ? -1 : best;
    }

    void forget() {
        seen.clear();
    }

    int game(int balcony, int other, int wall, int what) {
        Balcony b = at(balcony);
        Balcony c = at(other);
        int[] w = wallAt(wall);
        needWhat(what, 1);
        if (balcony == other || b.place != 2 && b.place != 3 || c.place != 2 && c.place != 3) {
            throw new IllegalArgumentException();
        }
        int prizeB = w[0] >= b.width ? w[1] : 0;
        int prizeC = w[0] >= c.width ? w[1] : 0;
        int homeB = b.place == 3 ? world.walls.get(b.wall)[1] : 0;
        int homeC = c.place == 3 ? world.walls.get(c.wall)[1] : 0;
        int[][] forB = {{homeB, homeB}, {prizeB, b.pots > c.pots ? prizeB - 5 : 0}};
        int[][] forC = {{homeC, prizeC}, {homeC, c.pots > b.pots ? prizeC - 5 : 0}};
        List<Integer> rest = new ArrayList<>();
        for (int i = 0; i < 2; i++) {
            for (int j = 0; j < 2; j++) {
                if (forB[i][j] >= forB[1 - i][j] && forC[i][j] >= forC[i][1 - j]) {
                    rest.add(10 * i + j);
                }
            }
        }
        return what == 0 ? rest.size() : rest.isEmpty() ? -1 : rest.get(0);
    }

    int storms(int seed, int n, int what) {
        needWhat(what, 2);
        needDays(n);
        World w = world.copy();
        int[] state = {seed};
        for (int d = 0; d < n; d++) {
            if (!w.balconies.isEmpty() && draw(state, 6) == 0) {
                Balcony b = w.balconies.get(draw(state, w.balconies.size()));
                b.place = b.place == 1 ? 4 : b.place;
            }
            w.day();
        }
        return new int[] {Integer.bitCount(w.bits(4)), Integer.bitCount(w.bits(3)), Arrays.stream(w.money).sum()}[what];
    }

    private static int draw(int[] state, int n) {
        state[0] = (int) (state[0] * 1103515245L + 12345L);
        return (int) ((state[0] & 0xffffffffL) / 65536 % 32768) % n;
    }

    private static List<int[]> copies(List<int[]> rows) {
        List<int[]> copies = new ArrayList<>();
        for (int[] row : rows) {
            copies.add(row.clone());
        }
        return copies;
    }

    void image() {
        image = new Image(world.copy(), new ArrayList<>(acts), copies(seen), status.clone());
    }

    boolean restore() {
        if (image == null) {
            return false;
        }
        world = image.world().copy();
        acts = new ArrayList<>(image.acts());
        seen = copies(image.seen());
        status = image.status().clone();
        return true;
    }
}
