import java.util.Random;

/** Runs of random calls, each answer held against the plain model's. The seeds are fixed, so a run can be had again. */
public final class ModelTest {
    private static final int RUNS = 3000;
    private static final String[] VALUES = {"times", "pots", "iron", "gone", "beside", "free", "day"};
    private static final String[] ANY = {"balcony", "wall", "ship", "times", "goes", "not", "and", "or", "pots", "gone", "x",
        ";", "(", ")", "+", "-", "*", "/", "<", "=", "0", "1", "9", "10", "21", "9999", "10000", "#", "A", "\t"};

    private final Random random;
    private final BalconyPort x = new BalconyPort();
    private final Model model = new Model();
    private final Check check;
    private final int run;

    private ModelTest(Check check, int run) {
        this.check = check;
        this.run = run;
        random = new Random(run);
    }

    public static void main(String[] args) {
        Check check = new Check();
        for (int run = 0; run < RUNS; run++) {
            new ModelTest(check, run).go();
        }
        check.end("ModelTest");
    }

    private int upTo(int n) {
        return random.nextInt(n + 1);
    }

    private int between(int low, int high) {
        return low + random.nextInt(high - low + 1);
    }

    private void same(String call, Check.Call ours, Check.Call due) {
        check.due("run " + run + ": " + call, Check.answer(due), ours);
    }

    private String expr(int depth) {
        int kind = depth <= 0 ? upTo(1) : upTo(9);
        switch (kind) {
            case 0: return String.valueOf(upTo(12) == 0 ? upTo(9999) : upTo(9));
            case 1: return VALUES[random.nextInt(VALUES.length)];
            case 2: return "not ".repeat(between(1, 3)) + expr(depth - 1);
            case 3: return "(" + expr(depth - 1) + ")";
            default: return expr(depth - 1) + " " + new String[] {"+", "-", "*", "/", "<", "=", "and", "or"}[upTo(7)] + " "
                + (random.nextBoolean() ? expr(depth - 1) : "(" + expr(depth - 1) + ")");
        }
    }

    private String text() {
        StringBuilder text = new StringBuilder();
        int balconies = upTo(run % 2 == 0 ? 5 : 10);
        int streets = upTo(3);
        for (int i = 0; i < balconies; i++) {
            text.append("balcony " + between(1, upTo(3) == 0 ? 20 : 8) + " " + between(1, 9) + " " + upTo(9) + " " + upTo(streets) + ";");
        }
        int walls = upTo(run % 2 == 0 ? 5 : 10);
        for (int i = 0; i < walls; i++) {
            text.append("wall " + between(1, 9) + (random.nextBoolean() ? " " : "\n") + upTo(upTo(1) == 0 ? 20 : 4) + ";");
        }
        if (upTo(3) != 0) {
            text.append("ship " + between(1, upTo(2) == 0 ? 99 : 30) + " " + between(1, upTo(9) == 0 ? 9 : 4) + " " + between(1, upTo(4) == 0 ? 9 : 3) + ";");
        }
        if (upTo(3) != 0) {
            text.append("times");
            for (int i = upTo(9); i >= 0; i--) {
                text.append(" ").append(upTo(9));
            }
            text.append(";");
        }
        if (upTo(3) != 0) {
            String rule = expr(between(0, 4));
            text.append("goes " + (rule.length() > 150 ? "1" : rule) + ";");
        }
        if (upTo(3) == 0) {
            spoil(text);
        }
        return text.length() > 700 ? text.substring(0, 700) : text.toString();
    }

    private void spoil(StringBuilder text) {
        int at = upTo(text.length());
        switch (upTo(3)) {
            case 0: text.insert(at, ANY[random.nextInt(ANY.length)]); break;
            case 1: text.delete(at, Math.min(text.length(), at + upTo(4))); break;
            case 2: text.setLength(at); break;
            default: text.append(ANY[random.nextInt(ANY.length)]).append(" ").append(ANY[random.nextInt(ANY.length)]); break;
        }
    }

    private void feedText() {
        String text = text();
        byte[] bytes = Check.bytes(text);
        for (int at = 0; at < bytes.length; at += 20) {
            int[] f = new int[5];
            for (int i = 0; i < 20; i++) {
                f[i / 4] = f[i / 4] << 8 | (at + i < bytes.length ? bytes[at + i] & 255 : random.nextInt(256));
            }
            same("feed", () -> x.feed(f[0], f[1], f[2], f[3], f[4]), () -> model.feed(f));
        }
        if (upTo(30) == 0) {
            int off = between(-1, 800);
            same("port(" + off + ")", () -> x.port(off), () -> model.port(off));
        }
        same("port(" + bytes.length + ") of " + text, () -> x.port(bytes.length), () -> model.port(bytes.length));
        same("fault() of " + text, x::fault, model::fault);
    }

    private void go() {
        if (run % 10 != 0) {
            feedText();
        }
        int calls = between(20, 60);
        for (int i = 0; i < calls; i++) {
            switch (upTo(2)) {
                case 0: change(); break;
                case 1: askState(); break;
                default: ask(); break;
            }
        }
        for (int i = 0; i <= 18; i++) {
            int what = i;
            same("count(" + what + ")", () -> x.count(what), () -> model.count(what));
        }
    }

    private void change() {
        int b = between(-1, model.count(0));
        int w = between(-1, model.count(1));
        int pots = between(-1, 10);
        switch (upTo(14)) {
            case 0: case 1: case 2: case 3: case 4:
                int many = upTo(3) == 0 ? between(-1, 22) : between(1, 5);
                same("days(" + many + ")", () -> x.days(many), () -> model.days(many)); break;
            case 5: same("pots(" + b + ", " + pots + ")", () -> x.pots(b, pots), () -> model.pots(b, pots)); break;
            case 6:
                int rent = between(-1, 21);
                same("rent(" + w + ", " + rent + ")", () -> x.rent(w, rent), () -> model.rent(w, rent)); break;
            case 7: same("widen(" + w + ", " + pots + ")", () -> x.widen(w, pots), () -> model.widen(w, pots)); break;
            case 8: same("back(" + b + ")", () -> x.back(b), () -> model.back(b)); break;
            case 9:
                if (upTo(1) == 0) {
                    same("sweep(" + b + ")", () -> x.sweep(b), () -> model.sweep(b));
                }
                break;
            case 10: same("undo()", x::undo, model::undo); break;
            case 11:
                int day = upTo(4) == 0 ? between(-1, 32) : between(1, 6);
                int seen = upTo(2) == 0 ? 0 : upTo(4) == 0 ? between(-1, 101) : upTo(18);
                same("see(" + day + ", " + seen + ")", () -> x.see(day, seen), () -> model.see(day, seen)); break;
            case 12:
                x.image();
                model.image();
                break;
            case 13: same("restore()", x::restore, model::restore); break;
            default:
                if (upTo(2) == 0) {
                    feedText();
                } else if (upTo(1) == 0) {
                    x.forget();
                    model.forget();
                }
        }
    }

    private void askState() {
        int b = between(-1, model.count(0));
        int w = between(-1, model.count(1));
        int s = between(-1, 4);
        int what = between(-1, 8);
        int counted = between(-1, 19);
        switch (upTo(5)) {
            case 0: same("count(" + counted + ")", () -> x.count(counted), () -> model.count(counted)); break;
            case 1: same("wall(" + w + ", " + what / 2 + ")", () -> x.wall(w, what / 2), () -> model.wall(w, what / 2)); break;
            case 2: same("street(" + s + ", " + what / 2 + ")", () -> x.street(s, what / 2), () -> model.street(s, what / 2)); break;
            case 3: same("beside(" + b + ")", () -> x.beside(b), () -> model.beside(b)); break;
            case 4: same("parted()", x::parted, model::parted); break;
            default: same("balcony(" + b + ", " + what + ")", () -> x.balcony(b, what), () -> model.balcony(b, what));
        }
    }

    private void ask() {
        int b = between(-1, model.count(0));
        int c = between(-1, model.count(0));
        int w = between(-1, model.count(1));
        int s = between(-1, 4);
        int what = upTo(9) == 0 ? between(-1, 3) : upTo(1);
        int days = upTo(9) == 0 ? between(-1, 61) : upTo(15);
        int seed = random.nextInt();
        switch (upTo(20)) {
            case 0: same("where(" + b + ", " + days + ", " + what + ")", () -> x.where(b, days, what), () -> model.where(b, days, what)); break;
            case 1: same("sails(" + b + ")", () -> x.sails(b), () -> model.sails(b)); break;
            case 2: same("hangs(" + b + ")", () -> x.hangs(b), () -> model.hangs(b)); break;
            case 3: same("earned(" + s + ", " + days + ")", () -> x.earned(s, days), () -> model.earned(s, days)); break;
            case 4: same("empty(" + s + ")", () -> x.empty(s), () -> model.empty(s)); break;
            case 5: case 20: same("follows(" + b + ")", () -> x.follows(b), () -> model.follows(b)); break;
            case 6: same("richest(" + days + ")", () -> x.richest(days), () -> model.richest(days)); break;
            case 7: same("waiting(" + days + ")", () -> x.waiting(days), () -> model.waiting(days)); break;
            case 8: same("vacant(" + days + ")", () -> x.vacant(days), () -> model.vacant(days)); break;
            case 9: same("fullest(" + what + ")", () -> x.fullest(what), () -> model.fullest(what)); break;
            case 10: same("mostPots(" + b + ")", () -> x.mostPots(b), () -> model.mostPots(b)); break;
            case 11: same("ships()", x::ships, model::ships); break;
            case 12: same("cargo(" + what + ")", () -> x.cargo(what), () -> model.cargo(what)); break;
            case 13: same("best(" + b + ")", () -> x.best(b), () -> model.best(b)); break;
            case 14: same("best(-1)", () -> x.best(-1), () -> model.best(-1)); break;
            case 15: same("widening()", x::widening, model::widening); break;
            case 16: same("wrong(" + what + ")", () -> x.wrong(what), () -> model.wrong(what)); break;
            case 17: same("look(" + what + ")", () -> x.look(what), () -> model.look(what)); break;
            case 18: same("game(" + b + ", " + c + ", " + w + ", " + what + ")", () -> x.game(b, c, w, what), () -> model.game(b, c, w, what)); break;
            default: same("storms(" + seed + ", " + days + ", " + what + ")", () -> x.storms(seed, days, what), () -> model.storms(seed, days, what));
        }
    }
}
