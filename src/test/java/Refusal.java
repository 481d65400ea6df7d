import java.util.Arrays;

/** A refused call, held against a twin of the same past that was spared it: all else must be the same on both. */
final class Refusal {
    interface On {
        Object answer(BalconyPort x);
    }

    static final int NO_STATUS = -1;
    static final int TEXTS = 0;
    static final int ACTS = 1;
    static final int SEEN = 2;

    /** A balcony's number is its place in past(): at home, at sea, on the quay, on a wall (0), lost. */
    static final String FIVE = "balcony 20 2 1 0; balcony 4 3 2 0; balcony 1 9 3 0; balcony 1 1 4 1; balcony 3 1 5 1;"
        + "wall 1 7; wall 4 2; ship 99 1 3; goes iron = day+1;";

    private Refusal() {
    }

    /** One in each place, three acts, the image of an earlier day, something seen, each status 1, an empty tape. */
    static BalconyPort past() {
        BalconyPort x = Check.of(FIVE);
        Check.port(x, " x");
        x.sweep(4);
        x.days(2);
        x.image();
        x.days(2);
        x.see(1, 2);
        x.see(0, 0);
        x.days(0);
        return x;
    }

    static void due(Check check, String what, Object want, int status, On call) {
        due(check, what, want, status, x -> null, call);
    }

    /** What goes ahead is done by both, the call by one of them. */
    static void due(Check check, String what, Object want, int status, On ahead, On call) {
        BalconyPort asked = past();
        BalconyPort spared = past();
        ahead.answer(asked);
        ahead.answer(spared);
        check.due(what, want, () -> call.answer(asked));
        check.due(what + ", fault()", spared.fault(), asked::fault);
        check.due(what + ", all else", tellAll(spared, NO_STATUS), () -> tellAll(asked, status));
    }

    /** A text with a fault: all stays but its status, and where the fault is. */
    static void text(Check check, int kind, int place, String text) {
        BalconyPort asked = past();
        check.due("port of " + text, kind, () -> Check.port(asked, text));
        check.due("fault of " + text, place, asked::fault);
        check.due("all else after " + text, tellAll(past(), NO_STATUS), () -> tellAll(asked, TEXTS));
    }

    /** All that can be asked now, then as each act is undone, then as the image was; the status told was raised by one. */
    private static String tellAll(BalconyPort x, int status) {
        StringBuilder told = new StringBuilder(tell(x, status));
        told.append(x.wrong(0)).append(' ').append(x.look(1)).append(' ').append(x.storms(1, 30, 2)).append(' ').append(x.follows(0));
        for (int left = x.undo(); left != BalconyPort.NONE; left = x.undo()) {
            told.append("\nundone ").append(tell(x, status));
        }
        told.append("\nrestored ").append(x.restore()).append(' ').append(tell(x, NO_STATUS));
        return told.toString();
    }

    private static String tell(BalconyPort x, int status) {
        int[] counts = new int[19];
        for (int i = 0; i < counts.length; i++) {
            counts[i] = x.count(i) - (status != NO_STATUS && i == 16 + status ? 1 : 0);
        }
        StringBuilder told = new StringBuilder(Arrays.toString(counts));
        for (int b = 0; b < counts[0]; b++) {
            for (int what = 0; what <= 7; what++) {
                told.append(' ').append(x.balcony(b, what));
            }
        }
        for (int w = 0; w < counts[1]; w++) {
            told.append(" /").append(x.wall(w, 0)).append(' ').append(x.wall(w, 1)).append(' ').append(x.wall(w, 2));
        }
        for (int s = 0; s < 4; s++) {
            told.append(" /").append(x.street(s, 0)).append(' ').append(x.street(s, 1)).append(' ').append(x.street(s, 2));
        }
        return told.toString();
    }
}
