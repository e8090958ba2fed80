import java.nio.charset.StandardCharsets;

/** What the tests share: telling a text to an object, and counting answers that are not due. */
final class Check {
    static final int BAD = -1, STATE = -2, FULL = -3, NONE = -4;
    /** Numbers far outside all that is told, some of which wrap around when they are reckoned with. */
    static final int[] FAR = {Integer.MIN_VALUE, Integer.MIN_VALUE + 1, -1000, 1000, Integer.MAX_VALUE - 1, Integer.MAX_VALUE};
    /** All that there is room for: 8 things, 12 meanings, 4 sounds, 6 kinds. */
    static final String ALL_ROOM = "thing a;thing b;thing c;thing d;thing e;thing f;thing g;thing h;"
        + "means a;means b;means c;means d;means e;means f;means g;means h;means -;means - not a;means ab;means - not abcdefgh;"
        + "word 0;word 7;word 8;word 9;plain;last;careful;proud;plain unlike;plain fears 7;";
    private static int wrong = 0;
    private static int looked = 0;
    private static String sentence = "";

    private Check() {
    }

    static void due(String call, long got, long want) {
        looked++;
        if (got != want) {
            wrong++;
            System.out.println(sentence + call + " answered " + got + ", due is " + want);
        }
    }

    static void holds(String what, boolean is) {
        looked++;
        if (!is) {
            wrong++;
            System.out.println(sentence + "does not hold: " + what);
        }
    }

    /** One sentence of the document, in its words, and the test that fails were it broken. */
    static void sentence(String words, Runnable test) {
        int before = looked;
        sentence = "[" + words + "] ";
        test.run();
        holds("something is looked at", looked > before);
        sentence = "";
    }

    static int wrongSoFar() {
        return wrong;
    }

    /** Puts a text on the tape, with blanks behind it cut off by end(). */
    static void feed(FirstWords x, String text) {
        byte[] bytes = text.getBytes(StandardCharsets.ISO_8859_1);
        int had = x.count(7);
        for (int i = 0; i < bytes.length; i += 8) {
            long v = 0;
            for (int j = 0; j < 8; j++) {
                v = v << 8 | (i + j < bytes.length ? bytes[i + j] & 255 : ' ');
            }
            x.feed(v);
        }
        x.end(had + bytes.length);
    }

    static int tell(FirstWords x, String text) {
        feed(x, text);
        return x.text();
    }

    static FirstWords told(String text) {
        FirstWords x = new FirstWords();
        int lines = tell(x, text);
        holds("the text is taken: " + text, lines >= 0);
        return x;
    }

    static void taken(String text, int lines) {
        FirstWords x = new FirstWords();
        due("text() of '" + text + "'", tell(x, text), lines);
        due("fault() of '" + text + "'", x.fault(), 0);
        due("count(7) behind '" + text + "'", x.count(7), 0);
    }

    static void refused(String text, int place, int fault) {
        FirstWords x = new FirstWords();
        due("text() of '" + text + "'", tell(x, text), -10 - place);
        due("fault() of '" + text + "'", x.fault(), fault);
        due("count(7) behind '" + text + "'", x.count(7), 0);
    }

    /** A text that is refused at the byte behind the mark @, which is not fed. */
    static void refusedAt(String marked, int fault) {
        refused(marked.replace("@", ""), marked.indexOf('@'), fault);
    }

    static void finish() {
        System.out.println(wrong == 0 ? "all answers are as due" : wrong + " answers are not as due");
        if (wrong != 0) {
            System.exit(1);
        }
    }
}
