/** Promises 26 to 31: answers that come back, what to ask, tests, what is likely. */
public final class ComesBackTest {
    /** Things 0 a, 1 b, 2 ab; meanings 0 {0, 2}, 1 {1, 2}. */
    private static final String WORLD = "thing a;thing b;thing ab;means a;means b;word 0;word 1;"
        + "plain chance 4;proud sees b chance 2;careful chance 3;last chance 0;plain fears 1;";

    public static void main(String[] args) {
        answer();
        heardAndLeft();
        leftStays();
        ask();
        askOfThoseLeft();
        askOfNone();
        sure();
        sureOfWhatCanBeThought();
        likely();
        Check.finish();
    }

    private static void answer() {
        FirstWords x = Check.told(WORLD);
        Check.due("none thinks", x.answer(0, 0, 0), -4);
        x.show(0, 2, true);
        int[][] due = {{1, 0, 1}, {0, 1, 1}, {-4, -4, -4}, {1, 0, 1}, {1, 0, 1}};
        for (int k = 0; k < 5; k++) {
            for (int t = 0; t < 3; t++) Check.due("answer(" + k + ", 0, " + t + ")", x.answer(k, 0, t), due[k][t]);
        }
        Check.due("of another sound", x.answer(0, 1, 0), -4);
        x.show(0, 1, false);
        Check.due("a frightened one", x.answer(4, 0, 0), -4);
        Check.due("answer(5, 0, 0)", x.answer(5, 0, 0), -1);
        Check.due("answer(-1, 0, 0)", x.answer(-1, 0, 0), -1);
        Check.due("answer(0, 2, 0)", x.answer(0, 2, 0), -1);
        Check.due("answer(0, -1, 0)", x.answer(0, -1, 0), -1);
        Check.due("answer(0, 0, 3)", x.answer(0, 0, 3), -1);
        Check.due("answer(0, 0, -1)", x.answer(0, 0, -1), -1);
    }

    private static void heardAndLeft() {
        FirstWords x = Check.told(WORLD);
        Check.due("left(0)", x.left(0), 31);
        Check.due("left(1)", x.left(1), 10);
        Check.due("left(2)", x.left(2), 10);
        x.show(0, 2, true);
        int[][] wrong = {{2, 0, 1}, {-1, 0, 1}, {0, 3, 1}, {0, -1, 1}, {0, 0, 2}, {0, 0, -1}, {0, 0, -2}, {0, 0, -3}, {0, 0, -5}};
        for (int[] w : wrong) Check.due("heard(" + w[0] + ", " + w[1] + ", " + w[2] + ")", x.heard(w[0], w[1], w[2]), -1);
        Check.due("left(0) behind wrong ones", x.left(0), 31);
        Check.due("heard(0, 2, 1)", x.heard(0, 2, 1), 27);
        Check.due("heard(0, 0, 1)", x.heard(0, 0, 1), 25);
        Check.due("left(0)", x.left(0), 25);
        Check.due("left(1)", x.left(1), 5);
        Check.due("left(2)", x.left(2), 10);
        Check.due("heard(0, 1, 0)", x.heard(0, 1, 0), 25);
        Check.due("heard(1, 1, -4)", x.heard(1, 1, -4), 25);
        Check.due("heard(0, 1, -4)", x.heard(0, 1, -4), 0);
        Check.due("left(1)", x.left(1), 0);
        Check.due("left(3)", x.left(3), -1);
        Check.due("left(-1)", x.left(-1), -1);
        FirstWords y = Check.told(WORLD);
        y.show(0, 2, true);
        Check.due("heard(0, 0, 0)", y.heard(0, 0, 0), 2);
        FirstWords z = Check.told(WORLD);
        z.show(0, 2, true);
        Check.due("heard(0, 0, -4)", z.heard(0, 0, -4), 4);
    }

    private static void leftStays() {
        FirstWords x = Check.told(WORLD);
        x.show(0, 2, true);
        x.heard(0, 0, 0);
        x.show(0, 1, false);
        Check.due("showings come", x.left(0), 2);
        x.undo();
        x.undo();
        Check.due("showings go", x.left(0), 2);
        x.hush();
        Check.due("hush()", x.left(0), 2);
        x.clear();
        Check.due("clear()", x.left(0), 31);
    }

    private static void ask(FirstWords x, int s, int t, int chance) {
        Check.due("ask(0)", x.ask(0), s);
        Check.due("ask(1)", x.ask(1), t);
        Check.due("ask(2)", x.ask(2), chance);
    }

    private static void ask() {
        FirstWords x = Check.told(WORLD);
        ask(x, 0, 0, 10);
        x.show(0, 2, true);
        // thing 0: 1 of 4 + 0 + 1, 0 of 2, none of 3; thing 2: 1 of 7, none of 3
        ask(x, 0, 0, 5);
        Check.due("left(0)", x.left(0), 31);
        FirstWords y = Check.told("thing a;thing ab;thing b;means a;means b;word 0;word 0;plain chance 4;plain sees b chance 5;");
        y.show(1, 1, true);
        // of sound 1 things 0 and 2 tell them apart
        ask(y, 1, 0, 5);
        Check.due("ask(3)", y.ask(3), -1);
        Check.due("ask(-1)", y.ask(-1), -1);
    }

    private static void askOfThoseLeft() {
        FirstWords x = Check.told("thing a;thing b;thing ab;means a;means b;means ab;means -;word 0;word 1;"
            + "plain sees a chance 3;plain sees b chance 3;last sees a chance 2;plain sees - chance 0;");
        x.show(0, 2, true);
        x.show(0, 0, true);
        x.show(0, 1, false);
        // kind 0 thinks a, 1 none, 2 thinks a, 3 none
        Check.due("heard(0, 0, 1)", x.heard(0, 0, 1), 5);
        ask(x, 0, 0, 5);
        Check.due("heard(1, 0, 1)", x.heard(1, 0, 1), 0);
        FirstWords y = Check.told("thing a;means a;word 0;plain chance 0;last chance 0;");
        ask(y, 0, 0, 0);
    }

    private static void askOfNone() {
        ask(Check.told("thing a;means a;word 0;"), -4, -4, -4);
        ask(Check.told("means a;word 0;plain;"), -4, -4, -4);
        ask(Check.told("thing a;means a;plain;"), -4, -4, -4);
        FirstWords x = Check.told("thing a;means a;word 0;plain;");
        ask(x, 0, 0, 1);
        x.heard(0, 0, 1);
        ask(x, -4, -4, -4);
        Check.due("a wrong number first", x.ask(3), -1);
    }

    private static void sure(FirstWords x, int s, int things) {
        Check.due("sure(" + s + ", 0)", x.sure(s, 0), Integer.bitCount(things));
        Check.due("sure(" + s + ", 1)", x.sure(s, 1), things);
    }

    private static void sure() {
        FirstWords x = Check.told("thing ab;thing a;thing b;thing -;"
            + "means a;means b;means ab;means a not b;means -;word 0;word 3;word 1;plain;");
        sure(x, 0, 7);
        sure(x, 1, 1);
        sure(x, 2, 6);
        Check.due("sure(3, 0)", x.sure(3, 0), -1);
        Check.due("sure(-1, 0)", x.sure(-1, 0), -1);
        Check.due("sure(0, 2)", x.sure(0, 2), -1);
        Check.due("sure(0, -1)", x.sure(0, -1), -1);
        // b differs from a at 0 and 1, c at 0 and 2, d at 1, 2, 3 and 0: two by {1, 2}, {0} alone does
        FirstWords y = Check.told("thing a;thing b;thing c;thing d;means a;means b;means c;means d;word 0;word 3;plain;");
        sure(y, 0, 1);
        sure(y, 1, 8);
        // no meaning but such as the same things are
        FirstWords z = Check.told("thing ab;thing c;means a;means b;word 0;plain;");
        sure(z, 0, 0);
        // each other one leaves two things out: 0 with 3 hits all, and 1 with 2, whose bits are the least number
        FirstWords v = Check.told("thing bd;thing bc;thing ad;thing ac;means -;means a;means b;means c;means d;word 0;plain;");
        sure(v, 0, 6);
    }

    private static void sureOfWhatCanBeThought() {
        String things = "thing ab;thing a;thing b;thing -;means a;means b;means ab;means a not b;means -;word 0;";
        sure(Check.told(things + "plain sees a chance 0;"), 0, 4);
        sure(Check.told(things + "plain sees b;"), 0, 4);
        sure(Check.told(things), 0, 0);
        FirstWords x = Check.told(things + "plain sees a;careful fears 0 sees -;");
        x.show(0, 0, true);
        sure(x, 0, 4);
    }

    private static void likely() {
        FirstWords x = Check.told(WORLD);
        Check.due("likely(0, 0)", x.likely(0, 0), 0);
        Check.due("likely(0, 1)", x.likely(0, 1), 1);
        x.show(0, 2, true);
        Check.due("likely(0, 0)", x.likely(0, 0), 1);
        Check.due("likely(0, 1)", x.likely(0, 1), 2);
        x.heard(0, 0, 0);
        Check.due("it does not look at those left", x.likely(0, 0), 1);
        x.show(0, 1, false);
        Check.due("careful too, one frightened", x.likely(0, 0), 7);
        Check.due("careful too, one frightened", x.likely(0, 1), 10);
        Check.due("likely(2, 0)", x.likely(2, 0), -1);
        Check.due("likely(-1, 0)", x.likely(-1, 0), -1);
        Check.due("likely(0, 2)", x.likely(0, 2), -1);
        Check.due("likely(0, -1)", x.likely(0, -1), -1);
        FirstWords y = Check.told("thing a;means a;word 0;plain chance 0;");
        y.teach(0, 0);
        Check.due("no chance", y.likely(0, 0), -4);
        Check.due("no chance", y.likely(0, 1), -4);
        Check.due("no kinds", Check.told("thing a;means a;word 0;").likely(0, 1), -4);
        FirstWords z = Check.told("thing a;means a;word 0;plain chance 9;last chance 3;");
        z.teach(0, 0);
        Check.due("all", z.likely(0, 0), 1);
        Check.due("all", z.likely(0, 1), 1);
    }
}
