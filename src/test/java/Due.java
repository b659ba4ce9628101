import java.nio.charset.StandardCharsets;

/** Gathers answers that are not the ones that are due, and ends a test. */
final class Due {
    private int asked;
    private int wrong;
    private String sentence = "";

    /** The document's sentence that the next answers are due by. */
    void says(String words) {
        sentence = "[" + words + "] ";
    }

    void is(String call, int got, int want) {
        asked++;
        if (got != want) {
            wrong++;
            System.out.println(sentence + call + " answered " + got + ", due is " + want);
        }
    }

    /** All facts of a thing in one line: the calls what = 0, 1, .. of told, ticket or count. */
    void told(String when, ChairFront x, int stretch, int... want) {
        for (int what = 0; what < want.length; what++) {
            is(when + ": told(" + stretch + ", " + what + ")", x.told(stretch, what), want[what]);
        }
    }

    void ticket(String when, ChairFront x, int ticket, int... want) {
        for (int what = 0; what < want.length; what++) {
            is(when + ": ticket(" + ticket + ", " + what + ")", x.ticket(ticket, what), want[what]);
        }
    }

    void count(String when, ChairFront x, int... want) {
        for (int what = 0; what < want.length; what++) {
            is(when + ": count(" + what + ")", x.count(what), want[what]);
        }
    }

    void trace(String when, ChairFront x, int... want) {
        for (int i = 0; i < want.length; i++) {
            is(when + ": trace(" + i + ")", x.trace(i), want[i]);
        }
        is(when + ": trace(" + want.length + ")", x.trace(want.length), ChairFront.NONE);
    }

    int wrong() {
        return wrong;
    }

    void end() {
        String name = new Exception().getStackTrace()[1].getClassName();
        System.out.println(name + ": " + asked + " answers, " + wrong + " wrong");
        if (wrong != 0 || asked == 0) {
            System.exit(1);
        }
    }

    /** Feeds a text (characters 0 to 255) in pieces of eight bytes; what the last feed answered. */
    static int feed(ChairFront x, String text) {
        byte[] bytes = text.getBytes(StandardCharsets.ISO_8859_1);
        int answer = 0;
        for (int at = 0; at < bytes.length; at += 8) {
            int n = Math.min(8, bytes.length - at);
            long w = 0;
            for (int i = 0; i < n; i++) {
                w = w << 8 | bytes[at + i] & 255;
            }
            answer = x.feed(w, n);
        }
        return answer;
    }

    static int rules(ChairFront x, String text) {
        feed(x, text);
        return x.rules();
    }
}
