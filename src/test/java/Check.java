import java.nio.charset.StandardCharsets;

/** What the tests share: telling answers that are not due, and feeding texts. */
final class Check {
    interface Call {
        Object answer();
    }

    private int wrong = 0;
    private int asked = 0;
    private String sentence = "";

    /** An answer as the tests write it: a number, true or false, or the name of what was thrown. */
    static String answer(Call call) {
        try {
            return String.valueOf(call.answer());
        } catch (RuntimeException e) {
            return e.getClass().getSimpleName();
        }
    }

    /** The document's sentence that all answers from here on hold the class against, so that a failure names it. */
    void sentence(String told) {
        sentence = "[" + told + "] ";
    }

    void due(String what, Object want, Call call) {
        String got = answer(call);
        asked++;
        if (!got.equals(String.valueOf(want))) {
            wrong++;
            if (wrong <= 40) {
                System.out.println(sentence + brief(what) + " answered " + brief(got) + ", due is " + brief(String.valueOf(want)));
            }
        }
    }

    private static String brief(String told) {
        return told.length() <= 400 ? told : told.substring(0, 400) + " .. (" + told.length() + ")";
    }

    /** Ends the test: with exit code 1, if an answer was not due. */
    void end(String test) {
        System.out.println(test + ": " + asked + " answers, " + wrong + " not as due");
        if (wrong != 0) {
            System.exit(1);
        }
    }

    static byte[] bytes(String text) {
        return text.getBytes(StandardCharsets.ISO_8859_1);
    }

    /** Feeds a text, filled up with blanks to a multiple of 20 bytes. */
    static void feed(BalconyPort x, String text) {
        byte[] bytes = bytes(text);
        for (int at = 0; at < bytes.length; at += 20) {
            int[] five = new int[5];
            for (int i = 0; i < 20; i++) {
                int sign = at + i < bytes.length ? bytes[at + i] & 255 : 32;
                five[i / 4] = five[i / 4] << 8 | sign;
            }
            x.feed(five[0], five[1], five[2], five[3], five[4]);
        }
    }

    static int port(BalconyPort x, String text) {
        feed(x, text);
        return x.port(bytes(text).length);
    }

    static BalconyPort of(String text) {
        BalconyPort x = new BalconyPort();
        int fault = port(x, text);
        if (fault != 0) {
            throw new AssertionError("fault " + fault + " at " + x.fault() + " in " + text);
        }
        return x;
    }
}
