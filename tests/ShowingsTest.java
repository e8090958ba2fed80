/** Promises 10 to 20: showings, and what kinds think behind them. */
public final class ShowingsTest {
    /** Meanings: 0 {0, 1}, 1 {0, 2}, 2 {0}, 3 {1}, 4 all; the plainest first: 4, 0, 1, 2, 3. */
    private static final String WORLD = "thing ab;thing a;thing b;thing -;"
        + "means a;means b;means ab;means a not b;means -;word 0;word 3;"
        + "plain;last;careful;proud;plain unlike;plain fears 2;";

    public static void main(String[] args) {
        showAndShown();
        teachIsTrue();
        plainThinks();
        plainThinksOfManyMarks();
        lastThinks();
        carefulThinks();
        proudHolds();
        proudCountsAnew();
        proudIsLeftWithNone();
        unlikeThinks();
        unlikeOfEachSort();
        kindsThatSeeLittle();
        frightened();
        undoAndClear();
        sameAndCommon();
        fullOfShowings();
        wrongNumbers();
        Check.finish();
    }

    private static void thinks(FirstWords x, int s, int... due) {
        for (int k = 0; k < due.length; k++) Check.due("thinks(" + k + ", " + s + ")", x.thinks(k, s), due[k]);
    }

    private static void showAndShown() {
        FirstWords x = Check.told(WORLD);
        Check.due("show(0, 3, true)", x.show(0, 3, true), 1);
        Check.due("show(1, 2, false)", x.show(1, 2, false), 2);
        int[][] due = {{0, 3, 1}, {1, 2, 0}};
        for (int i = 0; i < 2; i++) {
            for (int what = 0; what < 3; what++) Check.due("shown(" + i + ", " + what + ")", x.shown(i, what), due[i][what]);
        }
        Check.due("shown(2, 0)", x.shown(2, 0), -1);
        Check.due("shown(-1, 0)", x.shown(-1, 0), -1);
        Check.due("shown(0, 3)", x.shown(0, 3), -1);
        Check.due("shown(0, -1)", x.shown(0, -1), -1);
        Check.due("count(4)", x.count(4), 2);
    }

    private static void teachIsTrue() {
        FirstWords x = Check.told(WORLD);
        int[] so = {1, 1, 0, 0, 0, 1, 0, 0};
        for (int i = 0; i < 8; i++) Check.due("teach " + i, x.teach(i / 4, i % 4), i + 1);
        for (int i = 0; i < 8; i++) {
            Check.due("shown(" + i + ", 0)", x.shown(i, 0), i / 4);
            Check.due("shown(" + i + ", 1)", x.shown(i, 1), i % 4);
            Check.due("shown(" + i + ", 2)", x.shown(i, 2), so[i]);
        }
    }

    private static void plainThinks() {
        FirstWords x = Check.told(WORLD);
        thinks(x, 0, -4);
        Check.due("fits of no showing", x.fits(0, 0), 31);
        x.show(0, 0, true);
        thinks(x, 0, 4);
        Check.due("fits(0, 0)", x.fits(0, 0), 23);
        x.show(0, 3, false);
        thinks(x, 0, 0);
        Check.due("fits(0, 0)", x.fits(0, 0), 7);
        x.show(0, 1, false);
        thinks(x, 0, 1);
        Check.due("fits(0, 0)", x.fits(0, 0), 6);
        x.show(0, 2, false);
        thinks(x, 0, 2);
        x.show(0, 0, false);
        thinks(x, 0, -4);
        Check.due("fits(0, 0) of none", x.fits(0, 0), 0);
        Check.due("fits(0, 1) of the other sound", x.fits(0, 1), 31);
        thinks(x, 1, -4);
    }

    private static void plainThinksOfManyMarks() {
        FirstWords x = Check.told("thing abcdefgh;thing a;means abcdefgh;means abcdefg not h;means bcdefg;word 0;plain;");
        x.show(0, 0, true);
        thinks(x, 0, 2);
        FirstWords y = Check.told("thing abcdefgh;thing a;means a not bcdefgh;means abcdefgh;word 0;plain;");
        y.show(0, 0, true);
        thinks(y, 0, 1);
        y.clear();
        y.show(0, 0, false);
        thinks(y, 0, 0);
    }

    private static void lastThinks() {
        FirstWords x = Check.told(WORLD);
        x.show(0, 0, true);
        x.show(0, 2, false);
        Check.due("thinks(1, 0)", x.thinks(1, 0), 0);
        x.show(1, 1, true);
        Check.due("what it thought last, of another sound", x.thinks(1, 1), 0);
        Check.due("the plain one", x.thinks(0, 1), 4);
        x.show(1, 3, true);
        Check.due("the last does not fit", x.thinks(1, 1), 4);
        x.show(0, 1, true);
        Check.due("the latest is of the other sound and does not fit here", x.thinks(1, 0), 0);
        x.show(1, 0, true);
        Check.due("the latest fits no more", x.thinks(1, 1), 4);
        x.clear();
        x.show(0, 0, true);
        x.show(0, 2, false);
        x.show(0, 0, false);
        Check.due("it thinks none", x.thinks(1, 0), -4);
        x.show(1, 1, true);
        Check.due("what it thinks no more", x.thinks(1, 1), 0);
    }

    private static void carefulThinks() {
        FirstWords x = Check.told(WORLD);
        x.show(0, 0, true);
        Check.due("not sure", x.thinks(2, 0), -4);
        x.show(0, 2, false);
        Check.due("not sure of two", x.thinks(2, 0), -4);
        x.show(0, 1, true);
        Check.due("sure", x.thinks(2, 0), 0);
        x.show(0, 1, false);
        Check.due("none", x.thinks(2, 0), -4);
        FirstWords y = Check.told("thing ab;thing c;means ab;means b;means a;means c;word 2;careful;");
        y.show(0, 0, true);
        Check.due("the plainest of those that are the same", y.thinks(0, 0), 1);
        Check.due("all that fit", y.fits(0, 0), 7);
        FirstWords z = Check.told("means ab;means b;word 0;careful;");
        Check.due("no things, no showings", z.thinks(0, 0), -4);
    }

    private static void proudHolds() {
        FirstWords x = Check.told(WORLD);
        x.show(0, 0, true);
        Check.due("the first guess", x.thinks(3, 0), 4);
        Check.due("against(3, 0)", x.against(3, 0), 0);
        x.show(0, 2, false);
        Check.due("wrong once", x.thinks(3, 0), 4);
        Check.due("against(3, 0)", x.against(3, 0), 1);
        x.show(0, 1, true);
        Check.due("right between", x.thinks(3, 0), 4);
        Check.due("against(3, 0)", x.against(3, 0), 1);
        x.show(1, 1, true);
        Check.due("another sound counts for itself", x.against(3, 1), 0);
        x.show(0, 3, false);
        Check.due("wrong twice", x.thinks(3, 0), 0);
        Check.due("against(3, 0)", x.against(3, 0), 0);
        for (int k = 0; k < 6; k++) if (k != 3) Check.due("against(" + k + ", 0)", x.against(k, 0), 0);
    }

    private static void proudCountsAnew() {
        FirstWords x = Check.told(WORLD);
        x.show(0, 0, true);
        x.show(0, 3, false);
        x.show(0, 3, false);
        Check.due("wrong twice by one thing", x.thinks(3, 0), 0);
        x.show(0, 1, false);
        Check.due("it counts anew", x.thinks(3, 0), 0);
        Check.due("against(3, 0)", x.against(3, 0), 1);
        x.show(0, 2, true);
        Check.due("so, and it is not it", x.thinks(3, 0), 1);
        Check.due("against(3, 0)", x.against(3, 0), 0);
    }

    private static void proudIsLeftWithNone() {
        FirstWords x = Check.told(WORLD);
        x.show(0, 0, true);
        x.show(0, 0, false);
        Check.due("none fits, it holds on", x.thinks(3, 0), 4);
        Check.due("against(3, 0)", x.against(3, 0), 1);
        x.show(0, 0, false);
        Check.due("none fits, it gives up", x.thinks(3, 0), -4);
        Check.due("against(3, 0)", x.against(3, 0), 0);
        x.show(0, 0, true);
        Check.due("still none", x.thinks(3, 0), -4);
    }

    private static void unlikeThinks() {
        FirstWords x = Check.told(WORLD);
        x.show(0, 0, true);
        Check.due("thinks(4, 0)", x.thinks(4, 0), 4);
        x.show(1, 0, true);
        Check.due("not that of the other sound", x.thinks(4, 1), 0);
        Check.due("fits does not look at unlike", x.fits(4, 1), 23);
        x.show(0, 3, false);
        Check.due("nor this way", x.thinks(4, 0), 1);
        x.show(1, 1, false);
        Check.due("what was given up is free", x.thinks(4, 1), 2);
        FirstWords y = Check.told("thing a;means a;word 0;word 0;plain unlike;plain;");
        y.show(0, 0, true);
        y.show(1, 0, true);
        Check.due("none is left for it", y.thinks(0, 1), -4);
        Check.due("the other kind", y.thinks(1, 1), 0);
        y.show(0, 0, false);
        y.show(1, 0, true);
        Check.due("now it is free", y.thinks(0, 1), 0);
    }

    private static void unlikeOfEachSort() {
        FirstWords x = Check.told("thing a;thing b;means -;means a;means b;word 1;word 2;"
            + "last unlike;careful unlike;proud unlike;");
        x.show(0, 0, true);
        thinks(x, 0, 0, -4, 0);
        x.show(1, 0, true);
        Check.due("last, but not of the other sound", x.thinks(0, 1), 1);
        Check.due("careful of two", x.thinks(1, 1), -4);
        Check.due("proud", x.thinks(2, 1), 1);
        x.show(0, 1, false);
        thinks(x, 0, -4, 1, 0);
        x.show(1, 0, true);
        Check.due("last: the latest is its own", x.thinks(0, 1), 1);
        Check.due("careful: but for that of the other sound", x.thinks(1, 1), 0);
    }

    private static void kindsThatSeeLittle() {
        FirstWords x = Check.told("thing ab;thing c;means a;means b;means c;means ab;word 0;plain sees b;plain sees -;careful sees ab;");
        x.show(0, 0, true);
        thinks(x, 0, 1, -4, 0);
        Check.due("fits(0, 0)", x.fits(0, 0), 2);
        Check.due("fits(1, 0)", x.fits(1, 0), 0);
        Check.due("fits(2, 0)", x.fits(2, 0), 11);
    }

    private static void frightened() {
        FirstWords x = Check.told(WORLD);
        x.show(0, 0, true);
        x.show(1, 1, true);
        Check.due("fled(5)", x.fled(5), -4);
        Check.due("thinks(5, 1)", x.thinks(5, 1), 4);
        x.show(0, 2, true);
        Check.due("fled(5)", x.fled(5), 2);
        Check.due("nothing of this sound", x.thinks(5, 0), -4);
        Check.due("nothing of another", x.thinks(5, 1), -4);
        Check.due("fits(5, 0) nevertheless", x.fits(5, 0), 18);
        x.show(1, 0, true);
        x.show(1, 2, true);
        Check.due("nothing from then on", x.thinks(5, 1), -4);
        Check.due("frightened once", x.fled(5), 2);
        for (int k = 0; k < 5; k++) Check.due("fled(" + k + ")", x.fled(k), -4);
        FirstWords y = Check.told("thing a;thing b;means -;means a;word 1;proud fears 1 chance 0;");
        y.show(0, 0, true);
        y.show(0, 0, false);
        Check.due("against before", y.against(0, 0), 1);
        y.show(0, 1, false);
        Check.due("against behind", y.against(0, 0), 0);
        Check.due("fled(0)", y.fled(0), 2);
    }

    private static void undoAndClear() {
        FirstWords x = Check.told(WORLD);
        Check.due("undo() of none", x.undo(), -4);
        x.show(0, 0, true);
        x.show(0, 3, false);
        x.show(0, 2, false);
        Check.due("thinks(3, 0)", x.thinks(3, 0), 0);
        Check.due("undo()", x.undo(), 2);
        Check.due("thinks(3, 0) again", x.thinks(3, 0), 4);
        Check.due("against(3, 0) again", x.against(3, 0), 1);
        Check.due("fled(5) again", x.fled(5), -4);
        Check.due("thinks(5, 0) again", x.thinks(5, 0), 0);
        Check.due("heard(0, 3, 1)", x.heard(0, 3, 1), 8);
        Check.due("undo()", x.undo(), 1);
        Check.due("left stays", x.left(0), 8);
        x.theirs(0, true);
        x.keep(0);
        Check.due("clear()", x.clear(), 1);
        Check.due("nothing was heard", x.left(0), 63);
        Check.due("thinks(0, 0)", x.thinks(0, 0), -4);
        Check.due("theirs stay", x.count(5), 1);
        Check.due("images stay", x.count(6), 1);
        x.show(1, 1, true);
        Check.due("the last has no latest", x.thinks(1, 1), 4);
    }

    private static void sameAndCommon() {
        FirstWords x = Check.told(WORLD);
        Check.due("common of none", x.common(0), 3);
        Check.due("common(63) at first", x.common(63), 0);
        x.teach(1, 0);
        int[] same = {1, 1, 1, 1, 1, 1};
        for (int k = 0; k < 6; k++) Check.due("same(" + k + ", 1)", x.same(k, 1), same[k]);
        Check.due("same(0, 0)", x.same(0, 0), 0);
        Check.due("common(63)", x.common(63), 2);
        x.teach(0, 0);
        x.teach(0, 3);
        Check.due("same(0, 0)", x.same(0, 0), 1);
        Check.due("same(3, 0)", x.same(3, 0), 0);
        Check.due("same(2, 0)", x.same(2, 0), 0);
        Check.due("common(1)", x.common(1), 3);
        Check.due("common(49)", x.common(49), 3);
        Check.due("common(9)", x.common(9), 2);
        Check.due("common(64)", x.common(64), -1);
        Check.due("common(-1)", x.common(-1), -1);
        FirstWords y = Check.told("thing ab;thing c;means a;means b;word 0;plain sees b;plain;");
        y.teach(0, 0);
        Check.due("another meaning that the same things are", y.same(0, 0), 1);
        Check.due("thinks(0, 0)", y.thinks(0, 0), 1);
        Check.due("common(3)", y.common(3), 1);
    }

    private static void fullOfShowings() {
        FirstWords x = Check.told(WORLD);
        for (int i = 1; i <= 24; i++) Check.due("show " + i, i % 2 == 0 ? x.show(0, 0, true) : x.teach(0, 0), i);
        Check.due("show 25", x.show(0, 0, true), -3);
        Check.due("teach 25", x.teach(0, 0), -3);
        Check.due("a wrong number first", x.show(2, 0, true), -1);
        Check.due("a wrong number first", x.teach(0, 4), -1);
        Check.due("count(4)", x.count(4), 24);
        Check.due("shown(23, 1)", x.shown(23, 1), 0);
        Check.due("undo()", x.undo(), 23);
        Check.due("show again", x.show(1, 1, false), 24);
        Check.due("clear()", x.clear(), 24);
    }

    private static void wrongNumbers() {
        FirstWords x = Check.told(WORLD);
        int[][] wrong = {{-1, 0}, {0, -1}, {6, 0}, {0, 2}, {Integer.MAX_VALUE, 0}, {0, Integer.MIN_VALUE}};
        for (int[] w : wrong) {
            String of = "(" + w[0] + ", " + w[1] + ")";
            Check.due("thinks" + of, x.thinks(w[0], w[1]), -1);
            Check.due("fits" + of, x.fits(w[0], w[1]), -1);
            Check.due("same" + of, x.same(w[0], w[1]), -1);
            Check.due("against" + of, x.against(w[0], w[1]), -1);
        }
        Check.due("fled(6)", x.fled(6), -1);
        Check.due("fled(-1)", x.fled(-1), -1);
        Check.due("show(2, 0, true)", x.show(2, 0, true), -1);
        Check.due("show(0, 4, true)", x.show(0, 4, true), -1);
        Check.due("show(-1, 0, true)", x.show(-1, 0, true), -1);
        Check.due("show(0, -1, true)", x.show(0, -1, true), -1);
        Check.due("teach(2, 0)", x.teach(2, 0), -1);
        Check.due("teach(-1, 0)", x.teach(-1, 0), -1);
        Check.due("teach(0, 4)", x.teach(0, 4), -1);
        Check.due("teach(0, -1)", x.teach(0, -1), -1);
        Check.due("count(4)", x.count(4), 0);
    }
}
