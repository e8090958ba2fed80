/** Promises 21 to 25: the fewest showings, the order of words, what to hold up first. */
public final class FewestTest {
    /** Meanings: 0 {0, 1}, 1 {0, 2}, 2 {0}, 3 {1}, 4 all; the plainest first: 4, 0, 1, 2, 3. */
    private static final String WORLD = "thing ab;thing a;thing b;thing -;"
        + "means a;means b;means ab;means a not b;means -;word 0;word 3;"
        + "plain;last;careful;proud;plain unlike;plain fears 2;";

    public static void main(String[] args) {
        teachingOfOne();
        teachingOfSome();
        teachingFromNowOn();
        teachingOfFrightened();
        teachingOfNoneAndWrong();
        teachingOfFive();
        teachingOnAFullRow();
        never();
        orderOfTwo();
        orderThatHelps();
        orderOfThreeAtMost();
        orderOfNoneAndWrong();
        first();
        firstOfNone();
        fears();
        Check.finish();
    }

    private static void row(FirstWords x, int kinds, int s, int... things) {
        String of = "teaching(" + kinds + ", " + s + ", ";
        Check.due(of + "0)", x.teaching(kinds, s, 0), things.length);
        for (int i = 0; i < 5; i++) Check.due(of + (10 + i) + ")", x.teaching(kinds, s, 10 + i), i < things.length ? things[i] : -1);
    }

    private static void noRow(FirstWords x, int kinds, int s) {
        Check.due("teaching(" + kinds + ", " + s + ", 0)", x.teaching(kinds, s, 0), -4);
        Check.due("teaching(" + kinds + ", " + s + ", 10)", x.teaching(kinds, s, 10), -1);
    }

    private static void teachingOfOne() {
        FirstWords x = Check.told(WORLD);
        row(x, 1, 0, 2);
        row(x, 8, 0, 2);
        row(x, 4, 0, 0, 1, 2);
        row(x, 32, 0, 3);
        row(x, 1, 1, 0);
        Check.due("nothing is shown by it", x.count(4), 0);
        Check.due("nothing is thought by it", x.thinks(0, 0), -4);
    }

    private static void teachingOfSome() {
        FirstWords x = Check.told(WORLD);
        row(x, 15, 0, 2, 0, 1);
        row(x, 31, 0, 2, 0, 1);
        row(x, 63, 0, 3, 0, 1);
        row(x, 63, 1, 0);
    }

    private static void teachingFromNowOn() {
        FirstWords x = Check.told(WORLD);
        x.teach(0, 0);
        row(x, 1, 0, 2);
        row(x, 4, 0, 1, 2);
        row(x, 8, 0, 2, 2);
        x.teach(0, 3);
        row(x, 1, 0);
        row(x, 8, 0, 2);
        x.show(1, 1, false);
        noRow(x, 1, 1);
        x.undo();
        row(x, 1, 1, 0);
    }

    private static void teachingOfFrightened() {
        FirstWords x = Check.told(WORLD);
        x.teach(1, 0);
        row(x, 32, 1);
        x.teach(0, 2);
        noRow(x, 32, 0);
        noRow(x, 33, 0);
        noRow(x, 32, 1);
        row(x, 1, 0);
        row(x, 1, 1);
        FirstWords y = Check.told("thing a;thing b;means -;means a;word 1;plain fears 1;plain fears 1 chance 0;plain;");
        noRow(y, 1, 0);
        noRow(y, 2, 0);
        row(y, 4, 0, 1);
    }

    private static void teachingOfNoneAndWrong() {
        FirstWords x = Check.told(WORLD);
        row(x, 0, 0);
        row(x, 0, 1);
        int[][] wrong = {{64, 0, 0}, {-1, 0, 0}, {1, 2, 0}, {1, -1, 0}, {1, 0, 1}, {1, 0, 9}, {1, 0, 15}, {1, 0, -1}, {1, 0, Integer.MIN_VALUE},
            {64, 0, 10}, {Integer.MIN_VALUE, 0, 0}, {0, 4, 0}, {1, 0, Integer.MAX_VALUE}};
        for (int[] w : wrong) {
            Check.due("teaching(" + w[0] + ", " + w[1] + ", " + w[2] + ")", x.teaching(w[0], w[1], w[2]), -1);
        }
        FirstWords y = Check.told("means a;means -;word 0;plain;plain unlike sees -;");
        noRow(y, 1, 0);
        row(y, 0, 0);
    }

    /** A careful kind that wants one thing for each meaning. */
    private static void teachingOfFive() {
        String five = "thing abcde;thing bcde;thing acde;thing abde;thing abce;thing abcd;"
            + "means abcde;means bcde;means acde;means abde;means abce;";
        FirstWords x = Check.told(five + "word 0;careful;plain;");
        row(x, 1, 0, 1, 2, 3, 4);
        row(x, 2, 0, 1, 2, 3, 4);
        FirstWords y = Check.told(five + "means abcd;word 0;careful;plain;");
        row(y, 1, 0, 1, 2, 3, 4, 5);
        FirstWords z = Check.told("thing abcdef;thing bcdef;thing acdef;thing abdef;thing abcef;thing abcdf;thing abcde;"
            + "means abcdef;means bcdef;means acdef;means abdef;means abcef;means abcdf;means abcde;word 0;careful;");
        noRow(z, 1, 0);
        z.teach(0, 4);
        row(z, 1, 0, 1, 2, 3, 5, 6);
    }

    /** What a row would be is not bound by the room of showings. */
    private static void teachingOnAFullRow() {
        FirstWords x = Check.told(WORLD);
        for (int i = 0; i < 24; i++) x.teach(1, 1);
        Check.due("count(4)", x.count(4), 24);
        row(x, 1, 0, 2);
        row(x, 4, 1, 0);
    }

    private static void never() {
        FirstWords x = Check.told("thing ab;thing c;means a;means b;means -;word 0;word 2;plain sees b;plain sees c;plain;last sees -;");
        int[] ofFirst = {0, 1, 0, 1};
        for (int k = 0; k < 4; k++) {
            Check.due("never(" + k + ", 0)", x.never(k, 0), ofFirst[k]);
            Check.due("never(" + k + ", 1)", x.never(k, 1), 0);
        }
        x.show(0, 0, false);
        Check.due("it does not look at showings", x.never(0, 0), 0);
        Check.due("never(4, 0)", x.never(4, 0), -1);
        Check.due("never(-1, 0)", x.never(-1, 0), -1);
        Check.due("never(0, 2)", x.never(0, 2), -1);
        Check.due("never(0, -1)", x.never(0, -1), -1);
    }

    private static void order(FirstWords x, int kinds, int total, int... sounds) {
        Check.due("order(" + kinds + ", 0)", x.order(kinds, 0), total);
        for (int i = 0; i < sounds.length; i++) Check.due("order(" + kinds + ", " + (10 + i) + ")", x.order(kinds, 10 + i), sounds[i]);
        Check.due("order(" + kinds + ", behind all)", x.order(kinds, 10 + sounds.length), -1);
    }

    private static void orderOfTwo() {
        FirstWords x = Check.told(WORLD);
        order(x, 1, 2, 0, 1);
        order(x, 4, 4, 0, 1);
        order(x, 15, 4, 0, 1);
        order(x, 63, 4, 0, 1);
        x.show(0, 2, false);
        x.show(1, 1, false);
        order(x, 63, 4, 0, 1);
        Check.due("nothing is shown by it", x.count(4), 2);
    }

    /** One that takes no two sounds for one thing learns ab by less, when b is said already. */
    private static void orderThatHelps() {
        FirstWords x = Check.told("thing ab;thing a;thing b;thing -;"
            + "means a;means b;means ab;means a not b;means -;word 2;word 1;plain unlike;plain;");
        order(x, 1, 2, 1, 0);
        order(x, 2, 3, 0, 1);
        order(x, 3, 3, 0, 1);
    }

    private static void orderOfThreeAtMost() {
        String four = "thing abcd;thing bcd;thing acd;thing abd;thing abc;means abcd;means bcd;means acd;means abd;";
        order(Check.told(four + "word 0;careful;plain;"), 1, 3, 0);
        FirstWords y = Check.told(four + "means abc;word 0;careful;plain;");
        Check.due("four showings", y.teaching(1, 0, 0), 4);
        Check.due("order(1, 0)", y.order(1, 0), -4);
        Check.due("order(1, 10)", y.order(1, 10), -4);
        Check.due("order(1, 11)", y.order(1, 11), -1);
    }

    private static void orderOfNoneAndWrong() {
        FirstWords x = Check.told(WORLD);
        order(x, 0, 0, 0, 1);
        int[][] wrong = {{64, 0}, {-1, 0}, {1, 1}, {1, 9}, {1, 12}, {1, -1}, {64, 10}, {1, Integer.MAX_VALUE}, {1, Integer.MIN_VALUE}};
        for (int[] w : wrong) Check.due("order(" + w[0] + ", " + w[1] + ")", x.order(w[0], w[1]), -1);
        FirstWords y = Check.told("thing a;means a;plain;");
        order(y, 1, 0);
        FirstWords z = Check.told("thing a;thing b;means a;means -;word 0;word 1;plain sees -;plain;");
        Check.due("one that can never", z.order(1, 0), -4);
        Check.due("one that can never", z.order(3, 11), -4);
        order(z, 2, 2, 0, 1);
    }

    private static void first() {
        FirstWords x = Check.told("thing ab;thing a;thing b;means a;means b;means ab;word 0;word 1;"
            + "plain chance 4;careful chance 2;plain fears 0 chance 0;proud sees b chance 3;");
        // thing 0 so: {a, b, ab}; thing 1 so: {a}; thing 2 not so: {a}
        Check.due("first(0, 0)", x.first(0, 0), 1);
        Check.due("first(0, 1)", x.first(0, 1), 2);
        Check.due("first(0, 2)", x.first(0, 2), 3);
        // of b: thing 1 not so: {b, ab}, plain and proud think b, careful none; thing 2 so: {b}
        Check.due("first(1, 0)", x.first(1, 0), 2);
        Check.due("first(1, 1)", x.first(1, 1), 1);
        Check.due("first(1, 2)", x.first(1, 2), 1);
        x.teach(0, 2);
        x.teach(1, 2);
        Check.due("from no showings on", x.first(0, 0), 1);
        Check.due("first(2, 0)", x.first(2, 0), -1);
        Check.due("first(-1, 0)", x.first(-1, 0), -1);
        Check.due("first(0, 3)", x.first(0, 3), -1);
        Check.due("first(0, -1)", x.first(0, -1), -1);
        FirstWords y = Check.told("thing ab;thing a;thing b;means a;means b;means ab;word 0;"
            + "plain fears 1;plain chance 0 fears 2;plain;");
        Check.due("none that is feared with a chance", y.first(0, 0), 0);
        Check.due("first(0, 1)", y.first(0, 1), 1);
        Check.due("first(0, 2)", y.first(0, 2), 1);
    }

    private static void firstOfNone() {
        FirstWords x = Check.told("thing a;thing b;means -;means a;word 1;plain fears 0;plain fears 1;");
        for (int what = 0; what < 3; what++) Check.due("all are feared", x.first(0, what), -4);
        FirstWords y = Check.told("thing a;means a;word 0;plain chance 0;");
        for (int what = 0; what < 3; what++) Check.due("no chance", y.first(0, what), -4);
        FirstWords z = Check.told("means a;word 0;plain;");
        Check.due("no thing", z.first(0, 0), -4);
        FirstWords v = Check.told("thing a;thing a;means a;means -;word 0;plain sees b;plain sees -;careful chance 0;");
        Check.due("all things are it", v.first(0, 0), 0);
        Check.due("all things are it", v.first(0, 1), 1);
        FirstWords w = Check.told("thing ab;thing a;means ab;means a;word 0;plain sees a chance 5;plain sees c chance 3;");
        Check.due("the least of nothing", w.first(0, 0), 0);
        Check.due("0 by 1: the numerator", w.first(0, 1), 0);
        Check.due("0 by 1: the denominator", w.first(0, 2), 1);
    }

    private static void fears() {
        FirstWords x = Check.told("thing a;thing b;thing c;thing d;plain fears 1;plain fears 3 chance 0;last fears 1;proud;");
        Check.due("fears(0)", x.fears(0), 2);
        Check.due("fears(1)", x.fears(1), 5);
        Check.due("fears(2)", x.fears(2), -1);
        Check.due("fears(-1)", x.fears(-1), -1);
    }
}
