/** The sentences of 'Terms' 2 on what kinds think, and of promises 10 to 20, that name a boundary case, each with a test of its own. */
public final class BoundsOfShowingsTest {
    /** Meanings: 0 {0, 1}, 1 {0, 2}, 2 {0}, 3 {1}, 4 all; the plainest first: 4, 0, 1, 2, 3. */
    private static final String WORLD = "thing ab;thing a;thing b;thing -;means a;means b;means ab;means a not b;means -;";

    public static void main(String[] args) {
        whatFits();
        whoThinks();
        sorts();
        proud();
        unlikeAndNone();
        frightened();
        sameAndTrue();
        showAndTeach();
        undoAndClear();
        whatIsAsked();
        Check.finish();
    }

    private static FirstWords world(String rest) {
        return Check.told(WORLD + rest);
    }

    private static void thinks(FirstWords x, int s, int... due) {
        for (int k = 0; k < due.length; k++) Check.due("thinks(" + k + ", " + s + ")", x.thinks(k, s), due[k]);
    }

    private static void whatFits() {
        Check.sentence("A SHOWING (24)", () -> {
            FirstWords x = Check.told(Check.ALL_ROOM);
            for (int i = 1; i <= 24; i++) Check.due("show " + i, x.show(3, 6, true), i);
            Check.due("show 25", x.show(3, 6, true), -3);
            Check.due("count(4)", x.count(4), 24);
        });
        Check.sentence("A MEANING FITS a SOUND, if of all THINGS shown with it those that were so ARE it (none shown: all fit)", () -> {
            FirstWords x = world("word 0;word 1;plain;");
            Check.due("none shown", x.fits(0, 0), 31);
            x.show(0, 0, true);
            Check.due("thing 0 is so", x.fits(0, 0), 23);
            x.show(0, 1, true);
            Check.due("thing 1, too", x.fits(0, 0), 17);
            x.show(0, 3, true);
            Check.due("all that were so", x.fits(0, 0), 16);
            Check.due("none was shown with the other one", x.fits(0, 1), 31);
        });
        Check.sentence("and no other one", () -> {
            FirstWords x = world("word 0;plain;");
            x.show(0, 2, false);
            Check.due("thing 2 is not so", x.fits(0, 0), 13);
            x.show(0, 1, false);
            Check.due("nor thing 1", x.fits(0, 0), 4);
            x.show(0, 0, false);
            Check.due("none fits", x.fits(0, 0), 0);
            x.show(0, 3, false);
            Check.due("still none", x.fits(0, 0), 0);
            Check.due("what is not shown is not looked at", world("word 0;plain;").fits(0, 0), 31);
        });
        Check.sentence("A KIND CAN think MEANINGS that ask for no MARKS but those it sees", () -> {
            FirstWords x = world("word 0;plain sees -;plain sees a;plain sees b;plain sees ab;plain sees cdefgh;plain sees bcdefgh;");
            int[] can = {16, 17, 18, 31, 16, 18};
            for (int k = 0; k < 6; k++) Check.due("kind(" + k + ", 5)", x.kind(k, 5), can[k]);
            for (int k = 0; k < 6; k++) Check.due("fits(" + k + ", 0)", x.fits(k, 0), can[k]);
            x.show(0, 1, true);
            x.show(0, 3, false);
            // of 0 {0, 1} and 3 {1}
            thinks(x, 0, -4, 0, -4, 0, -4, -4);
        });
    }

    private static void whoThinks() {
        Check.sentence("Of each SOUND a KIND THINKS a MEANING or none (none at first)", () -> {
            FirstWords x = Check.told(Check.ALL_ROOM);
            for (int k = 0; k < 6; k++) {
                for (int s = 0; s < 4; s++) {
                    Check.due("thinks(" + k + ", " + s + ")", x.thinks(k, s), -4);
                    Check.due("answer(" + k + ", " + s + ", 0)", x.answer(k, s, 0), -4);
                }
            }
            x.show(0, 0, true);
            for (int k = 0; k < 6; k++) for (int s = 1; s < 4; s++) Check.due("no showing of " + s, x.thinks(k, s), -4);
            Check.due("but of 0", x.thinks(0, 0), 8);
        });
        Check.sentence("those that FIT the SOUND (this SHOWING, too)", () -> {
            FirstWords x = world("word 0;plain;last;careful;proud;");
            x.show(0, 3, false);
            thinks(x, 0, 0, 0, -4, 0);
            FirstWords y = world("word 0;plain;last;careful;proud;");
            y.show(0, 3, true);
            thinks(y, 0, 4, 4, 4, 4);
        });
        Check.sentence("and that it CAN think", () -> {
            FirstWords x = world("word 0;plain sees b;last sees b;careful sees b;proud sees b;");
            x.show(0, 0, true);
            thinks(x, 0, 4, 4, -4, 4);
            x.show(0, 3, false);
            // 0 fits and is plainer than 2, but it can not be thought
            thinks(x, 0, 1, 1, 1, 4);
            x.show(0, 1, false);
            thinks(x, 0, 1, 1, 1, 1);
        });
    }

    private static void sorts() {
        Check.sentence("plain: THINKS the PLAINEST of them (fewer MARKS, then the lesser number)", () -> {
            FirstWords x = world("word 0;plain;");
            x.show(0, 0, true);
            thinks(x, 0, 4);
            x.show(0, 3, false);
            thinks(x, 0, 0);
            x.show(0, 1, false);
            thinks(x, 0, 1);
        });
        Check.sentence("last: that which it THOUGHT latest .. if that is one of them", () -> {
            FirstWords x = world("word 0;word 1;last;plain;");
            x.show(0, 0, true);
            x.show(0, 2, false);
            thinks(x, 0, 0, 0);
            x.show(1, 1, true);
            thinks(x, 1, 0, 4);
            x.show(1, 3, true);
            Check.due("it is none of them now", x.thinks(0, 1), 4);
        });
        Check.sentence("last: .. (of any SOUND", () -> {
            FirstWords x = world("word 0;word 1;word 2;last;");
            x.show(2, 2, true);
            x.show(2, 3, false);
            Check.due("thinks(0, 2)", x.thinks(0, 2), 1);
            x.show(0, 0, true);
            Check.due("of another sound", x.thinks(0, 0), 1);
            x.show(0, 0, true);
            Check.due("of its own", x.thinks(0, 0), 1);
            x.show(1, 1, true);
            Check.due("it is none of them", x.thinks(0, 1), 4);
            x.show(0, 0, true);
            Check.due("the latest is 4 now, and not what it thought of this sound", x.thinks(0, 0), 4);
        });
        Check.sentence("last: .. whether it still does or not)", () -> {
            FirstWords x = world("word 0;word 1;last;");
            x.show(0, 0, true);
            x.show(0, 3, false);
            x.show(0, 0, false);
            Check.due("it thinks none", x.thinks(0, 0), -4);
            x.show(1, 1, true);
            Check.due("but it thought 0", x.thinks(0, 1), 0);
        });
        Check.sentence("last: .. else the PLAINEST (and if it thought none at all)", () -> {
            FirstWords x = world("word 0;word 1;last;last unlike;last sees -;");
            x.show(0, 0, true);
            thinks(x, 0, 4, 4, 4);
            x.show(1, 0, true);
            Check.due("the latest is of another sound, and no two are alike", x.thinks(1, 1), 0);
            x.show(0, 3, false);
            thinks(x, 0, 0, 1, -4);
        });
        Check.sentence("careful: if the same THINGS ARE all of them, the PLAINEST", () -> {
            FirstWords x = Check.told("thing ab;thing c;means ab;means b;means a;means c;word 2;careful;");
            x.show(0, 0, true);
            Check.due("of three", x.thinks(0, 0), 1);
            FirstWords y = world("word 0;careful;careful sees -;");
            y.show(0, 3, true);
            thinks(y, 0, 4, 4);
            FirstWords z = Check.told("thing a;thing b;means c;means d;means cd;word 0;careful;");
            z.show(0, 0, false);
            Check.due("no things are any of them", z.thinks(0, 0), 0);
        });
        Check.sentence("careful: .. else none", () -> {
            FirstWords x = world("word 0;careful;careful sees -;careful sees a;");
            x.show(0, 0, true);
            thinks(x, 0, -4, 4, -4);
            x.show(0, 3, false);
            thinks(x, 0, -4, -4, 0);
            x.show(0, 2, false);
            Check.due("0 and 2 are left", x.thinks(0, 0), -4);
            x.show(0, 1, false);
            Check.due("2 alone is left", x.thinks(0, 0), 2);
            x.show(0, 1, true);
            Check.due("none is left", x.thinks(0, 0), -4);
        });
    }

    private static void proud() {
        Check.sentence("proud: THINKS the PLAINEST, if it THOUGHT none of the SOUND", () -> {
            FirstWords x = world("word 0;word 1;proud;");
            x.show(0, 3, false);
            Check.due("thinks(0, 0)", x.thinks(0, 0), 0);
            x.show(1, 0, true);
            Check.due("of another one", x.thinks(0, 1), 4);
            FirstWords y = Check.told("thing a;thing b;means a;means -;word 0;word 0;word 0;proud unlike;");
            y.show(0, 0, true);
            y.show(1, 0, true);
            y.show(2, 0, true);
            Check.due("both are taken", y.thinks(0, 2), -4);
            y.show(0, 1, false);
            y.show(0, 1, false);
            Check.due("it gave up, and 0 is taken", y.thinks(0, 0), -4);
            y.show(2, 0, true);
            Check.due("it thought none, and 1 is free", y.thinks(0, 2), 1);
        });
        Check.sentence("proud: .. holds to what it THOUGHT", () -> {
            FirstWords x = world("word 0;proud;plain;");
            x.show(0, 3, false);
            x.show(0, 1, true);
            x.show(0, 0, false);
            thinks(x, 0, 0, 3);
            FirstWords y = world("word 0;proud;plain;");
            y.show(0, 0, true);
            for (int i = 0; i < 23; i++) y.show(0, i % 4, true);
            Check.due("none was against", y.thinks(0, 0), 4);
            Check.due("against(0, 0)", y.against(0, 0), 0);
        });
        Check.sentence("proud: .. (THING is so and is not it, or likewise)", () -> {
            FirstWords x = world("word 0;proud;");
            x.show(0, 3, false);
            Check.due("thinks(0, 0)", x.thinks(0, 0), 0);
            x.show(0, 1, true);
            x.show(0, 2, false);
            Check.due("two that bear it out", x.against(0, 0), 0);
            x.show(0, 2, true);
            Check.due("so, and is not it", x.against(0, 0), 1);
            FirstWords y = world("word 0;proud;");
            y.show(0, 3, false);
            y.show(0, 1, false);
            Check.due("not so, and is it", y.against(0, 0), 1);
        });
        Check.sentence("proud: .. till SHOWINGS of it .. were against that twice", () -> {
            FirstWords x = world("word 0;word 4;proud;");
            x.show(0, 0, true);
            x.show(0, 3, false);
            Check.due("once", x.thinks(0, 0), 4);
            x.show(0, 0, true);
            Check.due("one between that is not against it", x.thinks(0, 0), 4);
            x.show(1, 3, false);
            x.show(1, 3, false);
            Check.due("showings of another sound", x.thinks(0, 0), 4);
            Check.due("against(0, 0)", x.against(0, 0), 1);
            x.show(0, 3, false);
            Check.due("twice, by the same thing", x.thinks(0, 0), 0);
        });
        Check.sentence("proud: .. then the PLAINEST again", () -> {
            FirstWords x = world("word 0;proud;proud sees b;");
            x.show(0, 0, true);
            x.show(0, 1, false);
            x.show(0, 2, false);
            thinks(x, 0, 2, -4);
        });
        Check.sentence("proud: .. and it counts anew", () -> {
            FirstWords x = world("word 0;proud;");
            x.show(0, 0, true);
            x.show(0, 3, false);
            x.show(0, 3, false);
            Check.due("against(0, 0)", x.against(0, 0), 0);
            x.show(0, 1, false);
            Check.due("once, of what it thinks now", x.thinks(0, 0), 0);
            Check.due("against(0, 0)", x.against(0, 0), 1);
            x.show(0, 1, false);
            Check.due("twice", x.thinks(0, 0), 1);
            Check.due("against(0, 0)", x.against(0, 0), 0);
        });
    }

    private static void unlikeAndNone() {
        Check.sentence("unlike: but for those that it THINKS of other SOUNDS", () -> {
            FirstWords x = world("word 0;word 1;word 2;word 3;plain unlike;plain;");
            for (int s = 0; s < 4; s++) x.show(s, 0, true);
            int[] due = {4, 0, 1, 2};
            for (int s = 0; s < 4; s++) thinks(x, s, due[s], 4);
            x.show(0, 0, true);
            Check.due("that of its own sound is none of them", x.thinks(0, 0), 4);
            x.show(0, 3, false);
            Check.due("of those that fit all are taken", x.thinks(0, 0), -4);
            x.show(3, 0, true);
            Check.due("what it thinks no more is free", x.thinks(0, 3), 4);
            x.show(0, 0, true);
            Check.due("that, too", x.thinks(0, 0), 2);
        });
        Check.sentence("(None of them: none", () -> {
            FirstWords x = world("word 0;plain;last;careful;proud;plain sees -;proud sees -;");
            x.show(0, 3, false);
            thinks(x, 0, 0, 0, -4, 0, -4, -4);
            x.show(0, 3, true);
            for (int k = 0; k < 3; k++) Check.due("thinks(" + k + ", 0)", x.thinks(k, 0), -4);
            x.show(0, 3, true);
            thinks(x, 0, -4, -4, -4, -4);
            x.show(0, 3, true);
            thinks(x, 0, -4, -4, -4, -4);
        });
        Check.sentence("but a proud one that holds holds on.)", () -> {
            FirstWords x = world("word 0;proud;");
            x.show(0, 3, true);
            x.show(0, 3, false);
            Check.due("none fits", x.fits(0, 0), 0);
            Check.due("against once", x.thinks(0, 0), 4);
            x.show(0, 0, true);
            Check.due("not against it", x.thinks(0, 0), 4);
            x.show(0, 0, false);
            Check.due("against twice", x.thinks(0, 0), -4);
            Check.due("against(0, 0)", x.against(0, 0), 0);
        });
    }

    private static void frightened() {
        Check.sentence("if the THING is what it fears, it is FRIGHTENED", () -> {
            FirstWords x = world("word 0;word 1;plain fears 0;plain fears 3;plain fears 1;plain;");
            x.show(0, 0, true);
            x.show(1, 3, false);
            int[] fled = {0, 1, -4, -4};
            for (int k = 0; k < 4; k++) Check.due("fled(" + k + ")", x.fled(k), fled[k]);
            thinks(x, 0, -4, -4, 4, 4);
            thinks(x, 1, -4, -4, 0, 0);
        });
        Check.sentence("it THINKS nothing from then on", () -> {
            FirstWords x = world("word 0;word 1;plain fears 3;last fears 3;careful fears 3;proud fears 3;");
            x.show(0, 0, true);
            x.show(0, 1, true);
            x.show(0, 2, false);
            x.show(1, 2, true);
            x.show(1, 1, false);
            thinks(x, 0, 0, 0, 0, 4);
            thinks(x, 1, 1, 1, 1, 4);
            Check.due("against(3, 1)", x.against(3, 1), 1);
            x.show(1, 3, false);
            for (int s = 0; s < 2; s++) thinks(x, s, -4, -4, -4, -4);
            Check.due("against(3, 0)", x.against(3, 0), 0);
            Check.due("against(3, 1)", x.against(3, 1), 0);
            x.show(0, 0, true);
            x.show(1, 0, true);
            for (int s = 0; s < 2; s++) thinks(x, s, -4, -4, -4, -4);
            for (int k = 0; k < 4; k++) Check.due("answer(" + k + ", 0, 0)", x.answer(k, 0, 0), -4);
        });
        Check.sentence("each KIND that was not FRIGHTENED yet", () -> {
            FirstWords x = world("word 0;plain fears 3;");
            x.show(0, 0, true);
            x.show(0, 3, false);
            x.show(0, 3, false);
            Check.due("frightened once", x.fled(0), 1);
        });
    }

    private static void sameAndTrue() {
        Check.sentence("SAME: a KIND THINKS of a SOUND a MEANING that just those THINGS ARE that ARE the TARGET", () -> {
            FirstWords x = Check.told("thing ab;thing c;thing a;means ab;means b;means a;means d;means e;word 0;word 4;plain sees b;plain sees a;plain;");
            x.show(0, 0, true);
            thinks(x, 0, 1, 2, 1);
            int[] same = {1, 0, 1};
            for (int k = 0; k < 3; k++) Check.due("same(" + k + ", 0)", x.same(k, 0), same[k]);
            x.show(1, 0, false);
            Check.due("no thing is what it thinks", x.thinks(2, 1), 3);
            Check.due("and none is the target", x.same(2, 1), 1);
            Check.due("one that thinks none", x.same(0, 1), 0);
        });
        Check.sentence("TRUE SHOWINGS: so, if it IS the TARGET", () -> {
            FirstWords x = world("word 0;word 4;word 3;plain;");
            int[] so = {1, 1, 0, 0, 1, 1, 1, 1, 0, 1, 0, 0};
            for (int i = 0; i < 12; i++) Check.due("teach " + i, x.teach(i / 4, i % 4), i + 1);
            for (int i = 0; i < 12; i++) Check.due("shown(" + i + ", 2)", x.shown(i, 2), so[i]);
        });
    }

    private static void showAndTeach() {
        Check.sentence("Promise 10: A SHOWING: how many there are", () -> {
            FirstWords x = world("word 0;plain;");
            Check.due("the first", x.show(0, 3, true), 1);
            Check.due("the second, just the same", x.show(0, 3, true), 2);
            Check.due("the third", x.show(0, 3, false), 3);
        });
        Check.sentence("Promise 10: BAD", () -> {
            FirstWords x = Check.told(Check.ALL_ROOM);
            Check.due("show(4, 0, true)", x.show(4, 0, true), -1);
            Check.due("show(-1, 0, true)", x.show(-1, 0, true), -1);
            Check.due("show(0, 8, true)", x.show(0, 8, true), -1);
            Check.due("show(0, -1, true)", x.show(0, -1, true), -1);
            for (int n : Check.FAR) Check.due("show(" + n + ", 0, false)", x.show(n, 0, false), -1);
            for (int n : Check.FAR) Check.due("show(0, " + n + ", false)", x.show(0, n, false), -1);
            Check.due("none came", x.count(4), 0);
            Check.due("show(3, 7, true)", x.show(3, 7, true), 1);
            FirstWords y = Check.told("thing a;means a;word 0;");
            Check.due("show(1, 0, true) of one sound", y.show(1, 0, true), -1);
            Check.due("show(0, 1, true) of one thing", y.show(0, 1, true), -1);
            Check.due("show(0, 0, true) of no kinds", y.show(0, 0, true), 1);
        });
        Check.sentence("Promise 10: FULL (BAD is the first that fits)", () -> {
            FirstWords x = world("word 0;plain;");
            for (int i = 0; i < 23; i++) x.show(0, 0, true);
            Check.due("the 24th", x.show(0, 3, true), 24);
            Check.due("the 25th", x.show(0, 2, true), -3);
            Check.due("it changes nothing", x.fits(0, 0), 16);
            Check.due("count(4)", x.count(4), 24);
            Check.due("show(1, 0, true)", x.show(1, 0, true), -1);
            Check.due("show(0, 4, true)", x.show(0, 4, true), -1);
        });
        Check.sentence("Promise 11: A TRUE SHOWING: likewise. BAD", () -> {
            FirstWords x = Check.told(Check.ALL_ROOM);
            Check.due("teach(4, 0)", x.teach(4, 0), -1);
            Check.due("teach(-1, 0)", x.teach(-1, 0), -1);
            Check.due("teach(0, 8)", x.teach(0, 8), -1);
            Check.due("teach(0, -1)", x.teach(0, -1), -1);
            for (int n : Check.FAR) Check.due("teach(" + n + ", 0)", x.teach(n, 0), -1);
            for (int n : Check.FAR) Check.due("teach(0, " + n + ")", x.teach(0, n), -1);
            Check.due("none came", x.count(4), 0);
            Check.due("teach(3, 7)", x.teach(3, 7), 1);
        });
        Check.sentence("Promise 11: FULL", () -> {
            FirstWords x = world("word 0;plain;");
            for (int i = 1; i <= 24; i++) Check.due("teach " + i, x.teach(0, 0), i);
            Check.due("teach 25", x.teach(0, 2), -3);
            Check.due("it changes nothing", x.fits(0, 0), 23);
            Check.due("teach(1, 0)", x.teach(1, 0), -1);
            Check.due("teach(0, 4)", x.teach(0, 4), -1);
        });
    }

    private static void undoAndClear() {
        Check.sentence("Promise 12: The latest SHOWING was not: how many there are", () -> {
            FirstWords x = world("word 0;word 1;plain;last;careful;proud;plain unlike;plain fears 3;");
            x.show(0, 0, true);
            x.show(0, 2, false);
            x.show(1, 1, true);
            x.show(0, 3, false);
            Check.due("proud gave up", x.thinks(3, 0), 0);
            Check.due("fled(5)", x.fled(5), 3);
            Check.due("undo()", x.undo(), 3);
            thinks(x, 0, 0, 0, -4, 4, 0, 0);
            thinks(x, 1, 4, 0, -4, 4, 4, 4);
            Check.due("against(3, 0)", x.against(3, 0), 1);
            Check.due("fled(5)", x.fled(5), -4);
            Check.due("fits(0, 0)", x.fits(0, 0), 5);
            Check.due("shown(3, 0)", x.shown(3, 0), -1);
            Check.due("undo()", x.undo(), 2);
            thinks(x, 1, -4, -4, -4, -4, -4, -4);
            Check.due("undo()", x.undo(), 1);
            Check.due("undo(): none is left", x.undo(), 0);
            thinks(x, 0, -4, -4, -4, -4, -4, -4);
            Check.due("fits(0, 0)", x.fits(0, 0), 31);
            x.show(1, 1, true);
            Check.due("nothing was thought latest", x.thinks(1, 1), 4);
        });
        Check.sentence("Promise 12: .. of 24", () -> {
            FirstWords x = world("word 0;plain;");
            for (int i = 0; i < 24; i++) x.show(0, 0, true);
            Check.due("undo()", x.undo(), 23);
            Check.due("there is room again", x.show(0, 3, true), 24);
            for (int i = 23; i >= 0; i--) Check.due("undo()", x.undo(), i);
        });
        Check.sentence("Promise 12: NONE", () -> {
            FirstWords x = world("word 0;plain;");
            Check.due("at first", x.undo(), -4);
            x.show(0, 0, true);
            x.undo();
            Check.due("behind the last", x.undo(), -4);
            Check.due("count(4)", x.count(4), 0);
            Check.due("show(0, 0, true)", x.show(0, 0, true), 1);
        });
        Check.sentence("Promise 13: All SHOWINGS were not: how many there were", () -> {
            FirstWords x = world("word 0;word 1;last;proud;plain fears 3;");
            Check.due("of none", x.clear(), 0);
            for (int i = 0; i < 24; i++) x.show(0, 3, i == 0);
            Check.due("of all", x.clear(), 24);
            Check.due("once more", x.clear(), 0);
            Check.due("count(4)", x.count(4), 0);
            thinks(x, 0, -4, -4, -4);
            Check.due("fled(2)", x.fled(2), -4);
            Check.due("fits(0, 0)", x.fits(0, 0), 31);
            x.show(0, 2, true);
            x.show(0, 3, false);
            Check.due("against(1, 0)", x.against(1, 0), 1);
            Check.due("thinks(0, 0)", x.thinks(0, 0), 1);
            Check.due("of two", x.clear(), 2);
            x.show(1, 0, true);
            Check.due("nothing was thought latest", x.thinks(0, 1), 4);
            Check.due("none was against", x.against(1, 0), 0);
        });
        Check.sentence("Promise 13: (and nothing was HEARD)", () -> {
            FirstWords x = world("word 0;plain;last;");
            Check.due("none thinks, and yet it was heard", x.heard(0, 0, 1), 0);
            Check.due("clear() of none", x.clear(), 0);
            Check.due("left(0)", x.left(0), 3);
        });
        Check.sentence("Promise 14: Of SHOWING i: 0 SOUND, 1 THING, 2 whether so (1, 0)", () -> {
            FirstWords x = Check.told(Check.ALL_ROOM);
            for (int i = 0; i < 24; i++) x.show(i % 4, i % 8, i % 3 == 0);
            for (int i = 0; i < 24; i++) {
                Check.due("shown(" + i + ", 0)", x.shown(i, 0), i % 4);
                Check.due("shown(" + i + ", 1)", x.shown(i, 1), i % 8);
                Check.due("shown(" + i + ", 2)", x.shown(i, 2), i % 3 == 0 ? 1 : 0);
            }
        });
        Check.sentence("Promise 14: BAD", () -> {
            FirstWords x = world("word 0;plain;");
            Check.due("shown(0, 0) of none", x.shown(0, 0), -1);
            x.show(0, 0, true);
            for (int what = 0; what < 3; what++) {
                Check.due("shown(1, " + what + ")", x.shown(1, what), -1);
                Check.due("shown(-1, " + what + ")", x.shown(-1, what), -1);
                for (int i : Check.FAR) Check.due("shown(" + i + ", " + what + ")", x.shown(i, what), -1);
            }
            Check.due("shown(0, 3)", x.shown(0, 3), -1);
            Check.due("shown(0, -1)", x.shown(0, -1), -1);
            for (int what : Check.FAR) Check.due("shown(0, " + what + ")", x.shown(0, what), -1);
            x.undo();
            Check.due("shown(0, 0) behind undo()", x.shown(0, 0), -1);
            for (int i = 0; i < 24; i++) x.show(0, 0, true);
            Check.due("shown(23, 0)", x.shown(23, 0), 0);
            Check.due("shown(24, 0)", x.shown(24, 0), -1);
            x.clear();
            Check.due("shown(0, 0) behind clear()", x.shown(0, 0), -1);
        });
    }

    /** Of a kind and a sound, neither of which there may be. */
    private interface Asked {
        int of(int k, int s);
    }

    private static void badOfKindAndSound(String call, FirstWords ofAllRoom, FirstWords ofOne, Asked all, Asked one) {
        Check.holds(call + "(5, 3) is none", all.of(5, 3) != -1);
        Check.due(call + "(6, 0)", all.of(6, 0), -1);
        Check.due(call + "(-1, 0)", all.of(-1, 0), -1);
        Check.due(call + "(0, 4)", all.of(0, 4), -1);
        Check.due(call + "(0, -1)", all.of(0, -1), -1);
        for (int n : Check.FAR) Check.due(call + "(" + n + ", 0)", all.of(n, 0), -1);
        for (int n : Check.FAR) Check.due(call + "(0, " + n + ")", all.of(0, n), -1);
        Check.due("of one: " + call + "(1, 0)", one.of(1, 0), -1);
        Check.due("of one: " + call + "(0, 1)", one.of(0, 1), -1);
    }

    private static void whatIsAsked() {
        FirstWords all = Check.told(Check.ALL_ROOM);
        FirstWords one = Check.told("thing a;means a;word 0;plain;");
        Check.sentence("Promise 15: What a KIND THINKS of a SOUND; NONE", () -> {
            FirstWords x = Check.told("thing a;" + "means a;".repeat(11) + "means -;word 11;word 0;plain sees -;plain;");
            Check.due("none", x.thinks(0, 0), -4);
            x.show(0, 0, true);
            Check.due("the last meaning", x.thinks(0, 0), 11);
            x.show(1, 0, true);
            x.show(1, 0, false);
            Check.due("none any more", x.thinks(1, 1), -4);
        });
        Check.sentence("Promise 15: BAD", () -> badOfKindAndSound("thinks", all, one, all::thinks, one::thinks));
        Check.sentence("Promise 16: MEANINGS that FIT a SOUND and that a KIND CAN think (bits)", () -> {
            FirstWords x = Check.told(Check.ALL_ROOM);
            Check.due("all", x.fits(0, 0), 4095);
            x.show(0, 0, true);
            // 0 a, 8 all
            Check.due("fits(0, 0)", x.fits(0, 0), 257);
            x.show(0, 0, false);
            Check.due("none", x.fits(0, 0), 0);
            Check.due("of no meaning that it can think", Check.told("means a;word 0;plain sees -;").fits(0, 0), 0);
        });
        Check.sentence("Promise 16: unlike is not looked at", () -> {
            FirstWords x = world("word 0;word 1;plain unlike;plain;");
            x.show(0, 0, true);
            x.show(1, 0, true);
            Check.due("thinks(0, 1)", x.thinks(0, 1), 0);
            Check.due("fits(0, 1)", x.fits(0, 1), 23);
            Check.due("fits(1, 1)", x.fits(1, 1), 23);
        });
        Check.sentence("Promise 16: BAD", () -> badOfKindAndSound("fits", all, one, all::fits, one::fits));
        Check.sentence("Promise 17: Whether a SOUND is the SAME for a KIND (1, 0)", () -> {
            FirstWords x = world("word 4;plain;plain fears 0;");
            Check.due("it thinks none", x.same(0, 0), 0);
            x.teach(0, 1);
            Check.due("same(0, 0)", x.same(0, 0), 1);
            Check.due("same(1, 0)", x.same(1, 0), 1);
            x.teach(0, 0);
            Check.due("a frightened one", x.same(1, 0), 0);
        });
        Check.sentence("Promise 17: BAD", () -> badOfKindAndSound("same", all, one, all::same, one::same));
        Check.sentence("Promise 18: The SHOWING at which a KIND was FRIGHTENED", () -> {
            FirstWords x = world("word 0;plain fears 0;plain fears 1;plain fears 2;");
            x.show(0, 0, true);
            for (int i = 1; i < 23; i++) x.show(0, 3, true);
            x.show(0, 1, true);
            Check.due("at the first", x.fled(0), 0);
            Check.due("at the 24th", x.fled(1), 23);
            Check.due("at none", x.fled(2), -4);
            x.undo();
            Check.due("it was not", x.fled(1), -4);
            Check.due("but this was", x.fled(0), 0);
        });
        Check.sentence("Promise 18: NONE. BAD", () -> {
            FirstWords x = Check.told(Check.ALL_ROOM);
            for (int k = 0; k < 6; k++) Check.due("fled(" + k + ")", x.fled(k), -4);
            Check.due("fled(6)", x.fled(6), -1);
            Check.due("fled(-1)", x.fled(-1), -1);
            for (int k : Check.FAR) Check.due("fled(" + k + ")", x.fled(k), -1);
            Check.due("fled(1) of one", one.fled(1), -1);
        });
        Check.sentence("Promise 19: (0 or 1; none but proud: 0)", () -> {
            FirstWords x = world("word 0;proud;plain;last;careful;proud unlike;");
            int[] due = {0, 1, 0, 1, 0, 1, 0, 0, 0};
            boolean[] so = {true, false, false, false, false, false, false, true, true};
            int[] things = {0, 3, 3, 1, 1, 0, 0, 0, 0};
            for (int i = 0; i < 9; i++) {
                x.show(0, things[i], so[i]);
                Check.due("behind " + i + ": against(0, 0)", x.against(0, 0), due[i]);
                for (int k = 1; k < 4; k++) Check.due("behind " + i + ": against(" + k + ", 0)", x.against(k, 0), 0);
                Check.due("behind " + i + ": against(4, 0)", x.against(4, 0), due[i]);
            }
        });
        Check.sentence("Promise 19: BAD", () -> badOfKindAndSound("against", all, one, all::against, one::against));
        Check.sentence("Promise 20: SOUNDS that are the SAME for all of some KINDS (bits both)", () -> {
            FirstWords x = world("word 4;word 0;word 4;word 4;plain;last;plain;proud;plain;plain fears 0;");
            Check.due("at first", x.common(63), 0);
            x.teach(0, 1);
            x.teach(3, 1);
            Check.due("common(63)", x.common(63), 9);
            x.teach(1, 0);
            Check.due("common(63)", x.common(63), 0);
            Check.due("common(31)", x.common(31), 9);
            Check.due("common(32)", x.common(32), 0);
            x.teach(1, 3);
            Check.due("common(31)", x.common(31), 9);
            Check.due("common(23), without the proud one", x.common(23), 11);
            Check.due("of no sounds", Check.told("plain;").common(1), 0);
        });
        Check.sentence("Promise 20: BAD", () -> {
            Check.due("common(63)", all.common(63), 0);
            for (int kinds : new int[] {64, 65, 127, 128, -1, -64, 1 << 30}) Check.due("common(" + kinds + ")", all.common(kinds), -1);
            for (int kinds : Check.FAR) Check.due("common(" + kinds + ")", all.common(kinds), -1);
            Check.due("of one: common(1)", one.common(1), 0);
            Check.due("of one: common(2)", one.common(2), -1);
            Check.due("of one: common(3)", one.common(3), -1);
            Check.due("of none: common(1)", new FirstWords().common(1), -1);
            Check.due("of none: common(0)", new FirstWords().common(0), 0);
        });
    }
}
