import java.util.Random;

/** Long runs of drawn calls, each answer against that of the slow model of the document. */
public final class ModelRuns {
    private static final int MIXED = 300, READING = 300, TEACHING = 150, CALLS = 505;
    private static final int[] ODD_NUMBERS = {-1, -2, -4, 1 << 20, Integer.MAX_VALUE, Integer.MIN_VALUE, 40, 41, 13, 14, 24, 9};

    private final Random r;
    private final FirstWords x = new FirstWords();
    private final Model y = new Model();
    private final StringBuilder told = new StringBuilder();
    private int calls = 0;
    private int dear;

    private ModelRuns(long seed) {
        r = new Random(seed);
    }

    public static void main(String[] args) {
        for (int run = 0; run < MIXED + READING + TEACHING && Check.wrongSoFar() == 0; run++) {
            ModelRuns one = new ModelRuns(run);
            if (run < MIXED) one.mixed(run % 5 == 0);
            else if (run < MIXED + READING) one.reading();
            else one.teaching();
            if (Check.wrongSoFar() != 0) System.out.println("run " + run + ":\n" + one.told);
        }
        Check.finish();
    }

    private void mixed(boolean big) {
        int perText = 40 + r.nextInt(200);
        dear = 4;
        tell(world(big));
        while (calls < CALLS && Check.wrongSoFar() == 0) {
            if (r.nextInt(perText) == 0 && calls < CALLS - 60) tell(r.nextInt(3) == 0 ? hurt(world(big)) : world(big));
            else call();
        }
    }

    /** Texts one behind another, most of them hurt, and what is told then. */
    private void reading() {
        while (calls < CALLS - 70 && Check.wrongSoFar() == 0) {
            tell(r.nextInt(6) == 0 ? world(true) : hurt(crowded()));
            for (int i = 0; i < 8; i++) tellings(number(y.count(3)), number(y.count(1)), number(y.count(0)), number(y.count(2)));
        }
    }

    /** A small world, in which rows and orders are asked for behind each showing. */
    private void teaching() {
        tell(smallWorld());
        while (calls < CALLS && Check.wrongSoFar() == 0) {
            int s = number(y.count(2)), t = number(y.count(0)), k = kinds(), one = 1 << r.nextInt(6) & (1 << y.count(3)) - 1;
            if (r.nextInt(5) == 0) due("show(" + s + ", " + t + ", true)", x.show(s, t, true), y.show(s, t, true));
            else due("teach(" + s + ", " + t + ")", x.teach(s, t), y.teach(s, t));
            if (r.nextInt(5) == 0) due("clear()", x.clear(), y.clear());
            fewest(one, 0, s);
            fewest(k, 0, s);
            look(number(y.count(3)), s, t);
        }
    }

    // ---- texts

    private void tell(String text) {
        if (text.length() > 400) text = text.substring(0, 400);
        for (int i = 0; i < text.length(); i += 8) {
            long v = 0;
            for (int j = 0; j < 8; j++) v = v << 8 | (i + j < text.length() ? text.charAt(i + j) & 255 : r.nextInt(256));
            due("feed(" + v + ")", x.feed(v), y.feed(v));
        }
        due("end(" + text.length() + ")", x.end(text.length()), y.end(text.length()));
        due("text() of '" + text + "'", x.text(), y.text());
        due("fault()", x.fault(), y.fault());
    }

    private String letters(int most, int from) {
        StringBuilder b = new StringBuilder();
        for (int i = 0; i < most; i++) {
            char c = (char) ('a' + from + r.nextInt(4));
            if (b.indexOf("" + c) < 0 && r.nextInt(3) != 0) b.append(c);
        }
        return b.length() == 0 ? "-" : b.toString();
    }

    private String blanks(int least) {
        return " ".repeat(r.nextInt(6) == 0 ? least + r.nextInt(2) : least);
    }

    private String world(boolean big) {
        int from = r.nextInt(5);
        int things = big ? r.nextInt(9) : r.nextInt(5), meanings = r.nextInt(13);
        int words = r.nextInt(5), kinds = r.nextInt(7);
        if (r.nextInt(12) != 0) {
            things = Math.max(things, 2);
            meanings = Math.max(meanings, 3);
            words = Math.max(words, 1);
            kinds = Math.max(kinds, 2);
        }
        StringBuilder b = new StringBuilder();
        for (int i = 0; i < things; i++) line(b, "thing " + letters(4, from));
        for (int i = 0; i < meanings; i++) {
            String has = letters(2, from), not = "";
            if (r.nextInt(3) == 0) {
                for (char c : letters(2, from).toCharArray()) if (has.indexOf(c) < 0) not += c;
                if (not.isEmpty()) not = "-";
                if (not.length() > 1) not = not.replace("-", "");
            }
            line(b, "means " + has + (not.isEmpty() ? "" : blanks(1) + "not " + not));
        }
        for (int i = 0; i < words && meanings > 0; i++) line(b, "word " + blanks(0) + r.nextInt(meanings));
        for (int i = 0; i < kinds; i++) line(b, kind(things, from));
        return b.toString();
    }

    /** Few things, and meanings that differ by little. */
    private String smallWorld() {
        int things = 2 + r.nextInt(3), meanings = 4 + r.nextInt(9);
        StringBuilder b = new StringBuilder();
        for (int i = 0; i < things; i++) line(b, "thing " + letters(3, 0));
        for (int i = 0; i < meanings; i++) line(b, "means " + letters(2, 0) + (r.nextInt(3) == 0 ? " not efgh" : ""));
        for (int i = 0; i < 3; i++) line(b, "word " + r.nextInt(meanings));
        for (int i = 0; i < 5; i++) line(b, kind(r.nextInt(5) == 0 ? things : 0, 0));
        return b.toString();
    }

    /** So many lines of one sort that the room for them may be gone. */
    private String crowded() {
        StringBuilder b = new StringBuilder(world(false));
        String[] lines = {"thing a", "means a", "word 0", "plain", "proud unlike", "last chance 3 sees -", "means - not b"};
        String line = lines[r.nextInt(lines.length)];
        for (int i = r.nextInt(10); i > 0; i--) line(b, line);
        return b.toString();
    }

    private String kind(int things, int from) {
        String[] sorts = {"plain", "last", "careful", "proud"};
        StringBuilder b = new StringBuilder(sorts[r.nextInt(4)]);
        boolean sees = r.nextInt(4) == 0, fears = r.nextInt(5) == 0 && things > 0;
        if (sees) b.append(" sees ").append(letters(4, from));
        if (r.nextInt(3) == 0) b.append(" unlike");
        if (fears) b.append(" fears").append(blanks(0)).append(r.nextInt(things));
        if (r.nextInt(3) == 0) b.append(" chance ").append(r.nextInt(10));
        return b.toString();
    }

    private void line(StringBuilder b, String line) {
        String whole = blanks(0) + line + blanks(0) + ";";
        if (b.length() + whole.length() <= 400) b.append(whole);
    }

    /** A text with a scrap in it that is often wrong there: at any byte, or behind a token. */
    private String hurt(String text) {
        String[] scraps = {";", "-", " ", "i", "a", "7", "99", "123", " not ", " sees a ", " fears 9 ", " unlike ", " unlike unlike ",
            " chance 1 ", " chance 1 fears 0 chance 2", "thing a;", "means a;", "word 0;", "word 00;", "plain;", ",", "\n", "A", "\u00e9", "\u0000",
            "last", "proud ", "means a not ba;", "thing abcdefgh;", "thing abca;", "word 12;", "proud chance 10;", "plain sees i;"};
        StringBuilder b = new StringBuilder(text);
        int at = r.nextInt(b.length() + 1);
        if (r.nextBoolean()) while (at > 0 && b.charAt(at - 1) != ';' && r.nextInt(4) != 0) at--;
        if (r.nextInt(4) == 0 && at < b.length()) b.deleteCharAt(at);
        else b.insert(at, scraps[r.nextInt(scraps.length)]);
        return b.toString();
    }

    // ---- calls

    private int number(int below) {
        if (r.nextInt(25) == 0) return ODD_NUMBERS[r.nextInt(ODD_NUMBERS.length)];
        return r.nextInt(25) == 0 || below <= 0 ? below : r.nextInt(below);
    }

    private int kinds() {
        int all = (1 << y.count(3)) - 1;
        return r.nextInt(20) == 0 ? number(65) : r.nextInt(3) == 0 ? all : r.nextInt(64) & all;
    }

    private void due(String call, long got, long want) {
        calls++;
        told.append(call).append(" = ").append(want).append('\n');
        Check.due(call, got, want);
    }

    private void call() {
        int s = number(y.count(2)), t = number(y.count(0)), k = number(y.count(3)), m = number(y.count(1));
        boolean so = r.nextBoolean();
        switch (r.nextInt(16)) {
            case 0, 1, 2 -> due("teach(" + s + ", " + t + ")", x.teach(s, t), y.teach(s, t));
            case 3 -> due("show(" + s + ", " + t + ", " + so + ")", x.show(s, t, so), y.show(s, t, so));
            case 4, 5 -> takeBack();
            case 6, 7, 8 -> look(k, s, t);
            case 9 -> tellings(k, m, t, s);
            case 10 -> fewest(kinds(), k, s);
            case 11, 12 -> comesBack(k, s, t);
            case 13 -> theirSound(m, t, so);
            case 14 -> imagesAndSheets();
            default -> {
                int what = number(9);
                due("count(" + what + ")", x.count(what), y.count(what));
            }
        }
    }

    private void takeBack() {
        if (r.nextInt(12) == 0) due("clear()", x.clear(), y.clear());
        else if (r.nextInt(3) == 0) due("undo()", x.undo(), y.undo());
    }

    private void look(int k, int s, int t) {
        int what = number(3), i = number(y.count(4)), kinds = kinds();
        switch (r.nextInt(8)) {
            case 0, 1 -> due("thinks(" + k + ", " + s + ")", x.thinks(k, s), y.thinks(k, s));
            case 2 -> due("fits(" + k + ", " + s + ")", x.fits(k, s), y.fits(k, s));
            case 3 -> due("same(" + k + ", " + s + ")", x.same(k, s), y.same(k, s));
            case 4 -> due("fled(" + k + ")", x.fled(k), y.fled(k));
            case 5 -> due("against(" + k + ", " + s + ")", x.against(k, s), y.against(k, s));
            case 6 -> due("common(" + kinds + ")", x.common(kinds), y.common(kinds));
            default -> due("shown(" + i + ", " + what + ")", x.shown(i, what), y.shown(i, what));
        }
    }

    private void tellings(int k, int m, int t, int s) {
        int what = number(6);
        switch (r.nextInt(5)) {
            case 0 -> due("thing(" + t + ")", x.thing(t), y.thing(t));
            case 1 -> due("meaning(" + m + ", " + what + ")", x.meaning(m, what), y.meaning(m, what));
            case 2 -> due("word(" + s + ")", x.word(s), y.word(s));
            case 3 -> due("kind(" + k + ", " + what + ")", x.kind(k, what), y.kind(k, what));
            default -> due("fault()", x.fault(), y.fault());
        }
    }

    private void fewest(int kinds, int k, int s) {
        int what = number(3), place = r.nextBoolean() ? 0 : 10 + r.nextInt(6);
        boolean isDear = y.count(0) > 4;
        switch (r.nextInt(5)) {
            case 0 -> {
                if (!isDear || dear-- > 0) due("teaching(" + kinds + ", " + s + ", " + place + ")", x.teaching(kinds, s, place), y.teaching(kinds, s, place));
            }
            case 1 -> due("never(" + k + ", " + s + ")", x.never(k, s), y.never(k, s));
            case 2 -> {
                if (!isDear || dear-- > 0) due("order(" + kinds + ", " + place + ")", x.order(kinds, place), y.order(kinds, place));
            }
            case 3 -> due("first(" + s + ", " + what + ")", x.first(s, what), y.first(s, what));
            default -> due("fears(" + what + ")", x.fears(what), y.fears(what));
        }
    }

    private void comesBack(int k, int s, int t) {
        int what = number(3), answer = r.nextInt(8) == 0 ? number(3) : new int[] {0, 1, -4}[r.nextInt(3)];
        switch (r.nextInt(6)) {
            case 0 -> due("answer(" + k + ", " + s + ", " + t + ")", x.answer(k, s, t), y.answer(k, s, t));
            case 1 -> due("heard(" + s + ", " + t + ", " + answer + ")", x.heard(s, t, answer), y.heard(s, t, answer));
            case 2 -> due("left(" + what + ")", x.left(what), y.left(what));
            case 3 -> due("ask(" + what + ")", x.ask(what), y.ask(what));
            case 4 -> due("sure(" + s + ", " + what + ")", x.sure(s, what), y.sure(s, what));
            default -> due("likely(" + s + ", " + what + ")", x.likely(s, what), y.likely(s, what));
        }
    }

    private void theirSound(int m, int t, boolean so) {
        int what = number(4), part = number(3), seed = r.nextInt();
        switch (r.nextInt(8)) {
            case 0, 1, 2 -> due("theirs(" + t + ", " + so + ")", x.theirs(t, so), y.theirs(t, so));
            case 3 -> {
                if (r.nextInt(3) == 0) due("hush()", x.hush(), y.hush());
            }
            case 4, 5 -> due("meant(" + what + ")", x.meant(what), y.meant(what));
            case 6 -> due("build(" + m + ", " + part + ")", x.build(m, part), y.build(m, part));
            default -> due("draw(" + seed + ")", x.draw(seed), y.draw(seed));
        }
    }

    private void imagesAndSheets() {
        int i = number(2), k = r.nextInt(3) == 0 ? number(4) : 0, lane = r.nextInt(4) == 0 ? number(3) : k % 3;
        switch (r.nextInt(10)) {
            case 0 -> due("keep(" + i + ")", x.keep(i), y.keep(i));
            case 1 -> due("back(" + i + ")", x.back(i), y.back(i));
            case 2 -> {
                int n = r.nextInt(8) == 0 ? -1 : number(41);
                due("sheet(" + k + ", " + lane + ", " + n + ")", x.sheet(k, lane, n), y.sheet(k, lane, n));
            }
            case 3, 4, 5, 6 -> lay(k);
            default -> {
                int f = number(8), n = number(r.nextInt(4) == 0 ? 14 : 3);
                due("read(" + k + ", " + lane + ", " + f + ", " + n + ")", x.read(k, lane, f, n), y.read(k, lane, f, n));
                due("torn()", x.torn(), y.torn());
            }
        }
    }

    private void lay(int k) {
        int at = number(12);
        int v = switch (r.nextInt(6)) {
            case 0 -> r.nextInt(3) + (1 << 8);
            case 1 -> r.nextInt(3) - (1 << 16);
            case 2 -> number(9);
            default -> r.nextInt(2);
        };
        due("lay(" + k + ", " + at + ", " + v + ")", x.lay(k, at, v), y.lay(k, at, v));
    }
}
