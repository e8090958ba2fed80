import java.nio.charset.StandardCharsets;

/** What the tests share: telling a text to an object, and counting answers that are not due. */
final class Check {
    static final int BAD = -1, STATE = -2, FULL = -3, NONE = -4;
    private static int wrong = 0;

    private Check() {
    }

    static void due(String call, long got, long want) {
        if (got != want) {
            wrong++;
            System.out.println(call + " answered " + got + ", due is " + want);
        }
    }

    static void holds(String what, boolean is) {
        if (!is) {
            wrong++;
            System.out.println("does not hold: " + what);
        }
    }

    static int wrongSoFar() {
        return wrong;
    }

    /** Puts a text on the tape, with blanks behind it cut off by end(). */
    static void feed(FirstWords x, String text) {
        byte[] bytes = text.getBytes(StandardCharsets.ISO_8859_1);
        int had = x.count(7);
        for (int i = 0; i < bytes.length; i += 8) {
            long v = 0;
            for (int j = 0; j < 8; j++) {
                v = v << 8 | (i + j < bytes.length ? bytes[i + j] & 255 : ' ');
            }
            x.feed(v);
        }
        x.end(had + bytes.length);
    }

    static int tell(FirstWords x, String text) {
        feed(x, text);
        return x.text();
    }

    static FirstWords told(String text) {
        FirstWords x = new FirstWords();
        int lines = tell(x, text);
        holds("the text is taken: " + text, lines >= 0);
        return x;
    }

    static void refused(String text, int place, int fault) {
        FirstWords x = new FirstWords();
        due("text() of '" + text + "'", tell(x, text), -10 - place);
        due("fault() of '" + text + "'", x.fault(), fault);
        due("count(7) behind '" + text + "'", x.count(7), 0);
    }

    static void finish() {
        System.out.println(wrong == 0 ? "all answers are as due" : wrong + " answers are not as due");
        if (wrong != 0) {
            System.exit(1);
        }
    }
}
