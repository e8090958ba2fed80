/** The sentences of promises 26 to 31, and of 'Terms' 2 that they use, that name a boundary case, each with a test of its own. */
public final class BoundsOfAnswersTest {
    /** Things 0 a, 1 b, 2 ab; meanings 0 {0, 2}, 1 {1, 2}. Behind a showing of 2: a, b, none, a, a. */
    private static final String WORLD = "thing a;thing b;thing ab;means a;means b;word 0;word 1;"
        + "plain chance 4;proud sees b chance 2;careful chance 3;last chance 0;plain fears 1;";

    public static void main(String[] args) {
        answer();
        heard();
        left();
        ask();
        sure();
        likely();
        Check.finish();
    }

    private static void answer() {
        Check.sentence("Promise 26: 1 it IS what it THINKS, 0 it is not", () -> {
            FirstWords x = Check.told(WORLD);
            x.show(0, 2, true);
            int[][] due = {{1, 0, 1}, {0, 1, 1}, {-4, -4, -4}, {1, 0, 1}, {1, 0, 1}};
            for (int k = 0; k < 5; k++) for (int t = 0; t < 3; t++) Check.due("answer(" + k + ", 0, " + t + ")", x.answer(k, 0, t), due[k][t]);
            FirstWords y = Check.told("thing a;".repeat(7) + "thing b;means - not a;means b;word 0;plain;");
            y.show(0, 0, false);
            for (int t = 0; t < 8; t++) Check.due("answer(0, 0, " + t + ") of eight", y.answer(0, 0, t), t == 7 ? 1 : 0);
        });
        Check.sentence("Promise 26: NONE (it THINKS none)", () -> {
            FirstWords x = Check.told(WORLD);
            for (int k = 0; k < 5; k++) Check.due("at first: answer(" + k + ", 1, 2)", x.answer(k, 1, 2), -4);
            x.show(0, 2, true);
            Check.due("of another sound", x.answer(0, 1, 2), -4);
            Check.due("careful", x.answer(2, 0, 2), -4);
            x.show(1, 1, true);
            Check.due("frightened", x.answer(4, 0, 2), -4);
        });
        Check.sentence("Promise 26: BAD", () -> {
            FirstWords x = Check.told(Check.ALL_ROOM);
            Check.due("answer(5, 3, 7)", x.answer(5, 3, 7), -4);
            int[][] wrong = {{6, 0, 0}, {-1, 0, 0}, {0, 4, 0}, {0, -1, 0}, {0, 0, 8}, {0, 0, -1}};
            for (int[] w : wrong) Check.due("answer(" + w[0] + ", " + w[1] + ", " + w[2] + ")", x.answer(w[0], w[1], w[2]), -1);
            for (int n : Check.FAR) Check.due("answer(" + n + ", 0, 0)", x.answer(n, 0, 0), -1);
            for (int n : Check.FAR) Check.due("answer(0, " + n + ", 0)", x.answer(0, n, 0), -1);
            for (int n : Check.FAR) Check.due("answer(0, 0, " + n + ")", x.answer(0, 0, n), -1);
            FirstWords y = Check.told("thing a;means a;word 0;plain;");
            Check.due("answer(1, 0, 0) of one", y.answer(1, 0, 0), -1);
            Check.due("answer(0, 1, 0) of one", y.answer(0, 1, 0), -1);
            Check.due("answer(0, 0, 1) of one", y.answer(0, 0, 1), -1);
        });
    }

    private static void heard() {
        Check.sentence("LEFT: KINDS that ANSWER all as was HEARD", () -> {
            FirstWords x = Check.told(WORLD);
            x.show(0, 2, true);
            Check.due("1", x.heard(0, 2, 1), 27);
            Check.due("1 and 1", x.heard(0, 0, 1), 25);
            Check.due("once more", x.heard(0, 0, 1), 25);
            Check.due("and 0", x.heard(0, 1, 0), 25);
            Check.due("and what none of them answers", x.heard(0, 1, 1), 0);
            Check.due("none comes back", x.heard(0, 0, 1), 0);
        });
        Check.sentence("LEFT .. (all at first)", () -> {
            Check.due("six kinds", Check.told(Check.ALL_ROOM).left(0), 63);
            Check.due("one kind", Check.told("plain;").left(0), 1);
            Check.due("no kinds", Check.told("thing a;").left(0), 0);
        });
        Check.sentence("Promise 27: an ANSWER (1, 0, NONE)", () -> {
            int[] answers = {1, 0, -4};
            int[] due = {25, 2, 4};
            for (int i = 0; i < 3; i++) {
                FirstWords x = Check.told(WORLD);
                x.show(0, 2, true);
                Check.due("heard(0, 0, " + answers[i] + ")", x.heard(0, 0, answers[i]), due[i]);
            }
            FirstWords x = Check.told(WORLD);
            x.show(0, 2, true);
            for (int answer : new int[] {2, -1, -2, -3, -5, 3, 31}) Check.due("heard(0, 0, " + answer + ")", x.heard(0, 0, answer), -1);
            for (int n : Check.FAR) Check.due("heard(0, 0, " + n + ")", x.heard(0, 0, n), -1);
            Check.due("left(0) behind them", x.left(0), 31);
        });
        Check.sentence("Promise 27: BAD", () -> {
            FirstWords x = Check.told(Check.ALL_ROOM);
            for (int answer : new int[] {1, 0, -4}) {
                Check.due("heard(4, 0, " + answer + ")", x.heard(4, 0, answer), -1);
                Check.due("heard(-1, 0, " + answer + ")", x.heard(-1, 0, answer), -1);
                Check.due("heard(0, 8, " + answer + ")", x.heard(0, 8, answer), -1);
                Check.due("heard(0, -1, " + answer + ")", x.heard(0, -1, answer), -1);
                for (int n : Check.FAR) Check.due("heard(" + n + ", 0, " + answer + ")", x.heard(n, 0, answer), -1);
                for (int n : Check.FAR) Check.due("heard(0, " + n + ", " + answer + ")", x.heard(0, n, answer), -1);
            }
            Check.due("left(0)", x.left(0), 63);
            Check.due("heard(3, 7, -4)", x.heard(3, 7, -4), 63);
        });
        Check.sentence("Promise 27: (By what they THINK now", () -> {
            FirstWords x = Check.told(WORLD);
            x.show(0, 2, true);
            x.show(0, 1, false);
            // plain, careful, last think a; proud holds b; the last one is frightened
            Check.due("heard(0, 0, 1)", x.heard(0, 0, 1), 13);
            FirstWords y = Check.told(WORLD);
            y.show(0, 2, true);
            y.show(0, 1, false);
            y.undo();
            Check.due("behind undo()", y.heard(0, 0, 1), 25);
        });
        Check.sentence("Promise 27: LEFT stays as SHOWINGS come or go", () -> {
            FirstWords x = Check.told(WORLD);
            x.show(0, 2, true);
            x.heard(0, 0, 0);
            x.show(0, 1, false);
            Check.due("one came", x.left(0), 2);
            x.sheet(0, 0, 6);
            x.read(0, 0, 0, 2);
            Check.due("more came", x.left(0), 2);
            for (int i = 0; i < 5; i++) x.undo();
            Check.due("all went", x.left(0), 2);
        });
        Check.sentence("Promise 27: but for clear().)", () -> {
            FirstWords x = Check.told(WORLD);
            x.show(0, 2, true);
            x.heard(0, 0, 0);
            x.clear();
            Check.due("left(0)", x.left(0), 31);
        });
    }

    private static void left() {
        Check.sentence("Promise 28: KINDS that are LEFT (bits; what 0), the sum of their chances (1)", () -> {
            FirstWords x = Check.told(WORLD);
            x.show(0, 2, true);
            Check.due("all", x.left(1), 10);
            x.heard(0, 0, 1);
            Check.due("of 0, 3, 4", x.left(1), 5);
            x.heard(0, 0, 0);
            Check.due("of none", x.left(1), 0);
            Check.due("none", x.left(0), 0);
            Check.due("of no chance", Check.told("plain chance 0;last chance 0;").left(1), 0);
        });
        Check.sentence("Promise 28: the sum of all KINDS' chances (2; not in lowest terms)", () -> {
            FirstWords x = Check.told("thing a;means a;word 0;" + "plain chance 9;".repeat(6));
            Check.due("left(1)", x.left(1), 54);
            Check.due("left(2)", x.left(2), 54);
            x.heard(0, 0, 1);
            Check.due("left(1) of none", x.left(1), 0);
            Check.due("left(2) of all", x.left(2), 54);
            Check.due("of no kinds", Check.told("thing a;").left(2), 0);
        });
        Check.sentence("Promise 28: BAD", () -> {
            FirstWords x = Check.told(WORLD);
            Check.due("left(3)", x.left(3), -1);
            Check.due("left(-1)", x.left(-1), -1);
            for (int n : Check.FAR) Check.due("left(" + n + ")", x.left(n), -1);
            Check.due("left(3) of a new object", new FirstWords().left(3), -1);
        });
    }

    private static void ask(FirstWords x, int s, int t, int chance) {
        Check.due("ask(0)", x.ask(0), s);
        Check.due("ask(1)", x.ask(1), t);
        Check.due("ask(2)", x.ask(2), chance);
    }

    private static void ask() {
        Check.sentence("Promise 29: to be asked so that the greatest chance that can be LEFT is least", () -> {
            FirstWords x = Check.told(WORLD);
            x.show(0, 2, true);
            // thing 0: 5 answer 1, 2 answer 0, 3 none
            ask(x, 0, 0, 5);
            FirstWords y = Check.told("thing ab;thing a;thing b;means a;means b;word 0;word 0;plain chance 4;plain sees b chance 5;");
            y.show(1, 0, true);
            // only of sound 1, by things 1 and 2, do they answer unlike
            ask(y, 1, 1, 5);
            FirstWords z = Check.told("thing ab;thing a;means a;means b;word 0;plain chance 2;careful chance 7;");
            z.show(0, 0, true);
            // two answer unlike: one has none
            ask(z, 0, 0, 7);
        });
        Check.sentence("Promise 29: of several the first by SOUNDS, THINGS", () -> {
            FirstWords x = Check.told("thing ab;thing a;thing b;means a;means b;word 0;word 0;word 1;plain;plain sees b;");
            ask(x, 0, 0, 2);
            x.show(1, 0, true);
            ask(x, 1, 1, 1);
            x.show(2, 0, true);
            ask(x, 1, 1, 1);
            x.show(0, 0, true);
            ask(x, 0, 1, 1);
        });
        Check.sentence("Promise 29: that can be LEFT (of those that are LEFT)", () -> {
            FirstWords x = Check.told("thing ab;thing a;thing b;means a;means b;word 0;word 1;plain chance 5;plain sees b chance 3;careful chance 3;");
            x.show(0, 0, true);
            Check.due("heard(0, 1, 1)", x.heard(0, 1, 1), 1);
            ask(x, 0, 0, 5);
            FirstWords y = Check.told("thing a;means a;word 0;plain chance 0;last;");
            y.show(0, 0, true);
            Check.due("both answer it", y.heard(0, 0, 1), 3);
            ask(y, 0, 0, 1);
            FirstWords z = Check.told("thing a;means a;word 0;plain chance 0;last chance 0;");
            ask(z, 0, 0, 0);
        });
        Check.sentence("Promise 29: BAD", () -> {
            FirstWords x = Check.told(WORLD);
            Check.due("ask(3)", x.ask(3), -1);
            Check.due("ask(-1)", x.ask(-1), -1);
            for (int n : Check.FAR) Check.due("ask(" + n + ")", x.ask(n), -1);
            Check.due("ask(3) of a new object", new FirstWords().ask(3), -1);
        });
        Check.sentence("Promise 29: NONE: nothing to be asked", () -> {
            ask(Check.told("thing a;means a;plain;"), -4, -4, -4);
            ask(Check.told("means a;word 0;plain;"), -4, -4, -4);
        });
        Check.sentence("Promise 29: NONE: .. no KINDS are LEFT", () -> {
            FirstWords x = Check.told(WORLD);
            Check.due("heard(0, 0, 1)", x.heard(0, 0, 1), 0);
            ask(x, -4, -4, -4);
            ask(Check.told("thing a;means a;word 0;"), -4, -4, -4);
        });
    }

    private static void sure(FirstWords x, int s, int things) {
        Check.due("sure(" + s + ", 0)", x.sure(s, 0), Integer.bitCount(things));
        Check.due("sure(" + s + ", 1)", x.sure(s, 1), things);
    }

    private static void sure() {
        Check.sentence("SURE: THINGS to be asked so that no MEANING .. would be answered as the TARGET in all of them", () -> {
            FirstWords x = Check.told("thing ab;thing a;thing b;thing -;means a;means b;means ab;means a not b;means -;word 0;word 3;word 4;plain;");
            // b differs at 1, 2; ab at 1; a without b at 0; all at 2, 3
            sure(x, 0, 7);
            // all of the others differ at 0
            sure(x, 1, 1);
            // a differs at 2, 3; b at 1, 3; ab at 1, 2, 3; a without b at 0, 2, 3
            sure(x, 2, 8);
        });
        Check.sentence("no MEANING (the first and the last one, too)", () -> {
            FirstWords x = Check.told("thing a;thing b;thing ab;means a;means b;means ab;word 0;word 1;word 2;plain;");
            // b differs at 0, 1; ab at 0
            sure(x, 0, 1);
            sure(x, 1, 2);
            // a differs at 0, b at 1
            sure(x, 2, 3);
            FirstWords y = Check.told("thing -;thing a;thing b;" + "means -;".repeat(10) + "means a;means - not b;word 0;plain;");
            // the last but one differs at 0 and 2, the last one at 2
            sure(y, 0, 4);
            FirstWords z = Check.told("thing b;thing a;thing -;means - not a;means -;word 1;plain;");
            sure(z, 0, 2);
        });
        Check.sentence("that some KIND CAN think", () -> {
            String told = "thing ab;thing a;thing b;thing -;means a;means b;means ab;means a not b;means -;word 0;";
            sure(Check.told(told + "plain sees a;"), 0, 4);
            sure(Check.told(told + "plain sees b chance 0;"), 0, 4);
            sure(Check.told(told + "plain sees -;plain sees c;plain sees b;"), 0, 4);
            sure(Check.told(told + "plain sees a;plain sees ab chance 0;"), 0, 7);
            sure(Check.told(told), 0, 0);
        });
        Check.sentence("and that not just the same THINGS ARE", () -> {
            sure(Check.told("thing ab;thing c;means a;means b;means ab;word 0;plain;"), 0, 0);
            sure(Check.told("thing ab;thing c;means a;means b;means -;word 0;plain;"), 0, 2);
        });
        Check.sentence("Promise 30: the fewest THINGS (what 0): none and all", () -> {
            sure(Check.told("means a;means b;word 0;plain;"), 0, 0);
            sure(Check.told("thing a;means a;word 0;plain;"), 0, 0);
            StringBuilder b = new StringBuilder("means -;");
            for (char c = 'a'; c <= 'h'; c++) b.append("thing ").append(c).append(";means - not ").append(c).append(';');
            sure(Check.told(b + "word 0;plain;"), 0, 255);
        });
        Check.sentence("Promise 30: these (1, bits; of several the least)", () -> {
            sure(Check.told("thing a;thing a;thing b;thing b;means a;means -;word 0;plain;"), 0, 4);
            sure(Check.told("thing bd;thing bc;thing ad;thing ac;means -;means a;means b;means c;means d;word 0;plain;"), 0, 6);
        });
        Check.sentence("Promise 30: BAD", () -> {
            FirstWords x = Check.told(Check.ALL_ROOM);
            Check.due("sure(3, 1) is there", x.sure(3, 0), 3);
            for (int what = 0; what < 2; what++) {
                Check.due("sure(4, " + what + ")", x.sure(4, what), -1);
                Check.due("sure(-1, " + what + ")", x.sure(-1, what), -1);
                for (int n : Check.FAR) Check.due("sure(" + n + ", " + what + ")", x.sure(n, what), -1);
            }
            Check.due("sure(0, 2)", x.sure(0, 2), -1);
            Check.due("sure(0, -1)", x.sure(0, -1), -1);
            for (int n : Check.FAR) Check.due("sure(0, " + n + ")", x.sure(0, n), -1);
        });
    }

    private static void likely(FirstWords x, int s, int numerator, int denominator) {
        Check.due("likely(" + s + ", 0)", x.likely(s, 0), numerator);
        Check.due("likely(" + s + ", 1)", x.likely(s, 1), denominator);
    }

    private static void likely() {
        Check.sentence("Promise 31: All chances of KINDS for which a SOUND is the SAME .. (by all chances)", () -> {
            FirstWords x = Check.told(WORLD);
            x.show(0, 2, true);
            x.heard(0, 0, 0);
            likely(x, 0, 1, 2);
            x.show(0, 1, false);
            likely(x, 0, 7, 10);
            x.undo();
            likely(x, 0, 1, 2);
        });
        Check.sentence("Fractions are in lowest terms, the denominator above 0 (0 is 0 by 1)", () -> {
            FirstWords x = Check.told("thing a;thing b;means a;means b;word 0;plain chance 6;plain sees b chance 9;");
            likely(x, 0, 0, 1);
            x.teach(0, 0);
            likely(x, 0, 2, 5);
            FirstWords y = Check.told("thing a;means a;word 0;" + "plain chance 9;".repeat(6));
            likely(y, 0, 0, 1);
            y.teach(0, 0);
            likely(y, 0, 1, 1);
            FirstWords z = Check.told("thing a;means a;word 0;plain chance 0;plain sees b chance 9;");
            z.teach(0, 0);
            likely(z, 0, 0, 1);
        });
        Check.sentence("Promise 31: BAD", () -> {
            FirstWords x = Check.told(Check.ALL_ROOM);
            likely(x, 3, 0, 1);
            for (int what = 0; what < 2; what++) {
                Check.due("likely(4, " + what + ")", x.likely(4, what), -1);
                Check.due("likely(-1, " + what + ")", x.likely(-1, what), -1);
                for (int n : Check.FAR) Check.due("likely(" + n + ", " + what + ")", x.likely(n, what), -1);
            }
            Check.due("likely(0, 2)", x.likely(0, 2), -1);
            Check.due("likely(0, -1)", x.likely(0, -1), -1);
            for (int n : Check.FAR) Check.due("likely(0, " + n + ")", x.likely(0, n), -1);
            FirstWords y = Check.told("means a;word 0;");
            Check.due("no chance, but a number that is wrong", y.likely(0, 2), -1);
            Check.due("no chance, but no such sound", y.likely(1, 0), -1);
        });
        Check.sentence("Promise 31: NONE: no chance", () -> {
            likely(Check.told("thing a;means a;word 0;"), 0, -4, -4);
            FirstWords x = Check.told("thing a;means a;word 0;plain chance 0;last chance 0;");
            x.teach(0, 0);
            likely(x, 0, -4, -4);
        });
    }
}
