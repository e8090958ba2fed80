/** The sentences of 'Terms' 2 on teaching and orders, and of promises 21 to 25, that name a boundary case, each with a test of its own. */
public final class BoundsOfFewestTest {
    /** Meanings: 0 {0, 1}, 1 {0, 2}, 2 {0}, 3 {1}, 4 all; the plainest first: 4, 0, 1, 2, 3. */
    private static final String WORLD = "thing ab;thing a;thing b;thing -;means a;means b;means ab;means a not b;means -;";
    /** Of meaning 0, which all are, thing 0 tells 1 and 3 apart, 1 does 1 and 4, 2 does 2 and 3, 3 does 2 and 4. */
    private static final String CROSSED = "thing bd;thing bc;thing ad;thing ac;means -;means a;means b;means c;means d;word 0;";

    public static void main(String[] args) {
        rows();
        teaching();
        never();
        orders();
        order();
        first();
        fears();
        Check.finish();
    }

    private static FirstWords world(String rest) {
        return Check.told(WORLD + rest);
    }

    /** All things are meaning 0, and all but one each other meaning: a careful kind wants every thing of n. */
    private static String ladder(int n) {
        StringBuilder b = new StringBuilder();
        for (int i = 0; i < n; i++) b.append("thing ").append((char) ('a' + i)).append(';');
        b.append("means -;");
        for (int i = 0; i < n; i++) b.append("means - not ").append((char) ('a' + i)).append(';');
        return b.append("word 0;careful;plain;").toString();
    }

    private static void row(FirstWords x, int kinds, int s, int... things) {
        String of = "teaching(" + kinds + ", " + s + ", ";
        Check.due(of + "0)", x.teaching(kinds, s, 0), things.length);
        for (int i = 0; i < 5; i++) Check.due(of + (10 + i) + ")", x.teaching(kinds, s, 10 + i), i < things.length ? things[i] : -1);
    }

    private static void noRow(FirstWords x, int kinds, int s) {
        Check.due("teaching(" + kinds + ", " + s + ", 0)", x.teaching(kinds, s, 0), -4);
        for (int i = 0; i < 5; i++) Check.due("teaching(" + kinds + ", " + s + ", " + (10 + i) + ")", x.teaching(kinds, s, 10 + i), -1);
    }

    private static void order(FirstWords x, int kinds, int total, int... sounds) {
        Check.due("order(" + kinds + ", 0)", x.order(kinds, 0), total);
        for (int i = 0; i < sounds.length; i++) Check.due("order(" + kinds + ", " + (10 + i) + ")", x.order(kinds, 10 + i), sounds[i]);
    }

    private static void rows() {
        Check.sentence("TEACHING a SOUND to some KINDS: the fewest TRUE SHOWINGS of it", () -> {
            FirstWords x = world("word 0;word 4;plain;last;careful;proud;");
            row(x, 1, 0, 2);
            row(x, 4, 0, 0, 1, 2);
            row(x, 15, 0, 2, 0, 1);
            row(x, 15, 1, 3);
            row(x, 11, 1, 0);
        });
        Check.sentence("(5 at most)", () -> {
            row(Check.told(ladder(5)), 1, 0, 0, 1, 2, 3, 4);
            FirstWords six = Check.told(ladder(6));
            noRow(six, 1, 0);
            noRow(six, 3, 0);
            row(six, 2, 0, 0);
            six.teach(0, 3);
            row(six, 1, 0, 0, 1, 2, 4, 5);
        });
        Check.sentence("behind which it is the SAME for all of them", () -> {
            FirstWords x = world("word 4;plain;careful;plain sees a;plain sees a chance 0;");
            x.teach(0, 3);
            row(x, 15, 0);
            FirstWords y = world("word 1;plain;plain sees a;");
            row(y, 1, 0, 1);
            noRow(y, 2, 0);
            noRow(y, 3, 0);
        });
        Check.sentence("behind which it is the SAME (by a showing behind which just the same MEANINGS FIT)", () -> {
            for (String sort : new String[] {"plain", "last", "careful", "proud"}) {
                FirstWords x = Check.told("thing a;thing b;means -;word 0;word 0;" + sort + ";");
                row(x, 1, 1, 0);
                x.teach(0, 1);
                row(x, 1, 1, 0);
                order(x, 1, 2, 0, 1);
            }
        });
        Check.sentence("none of them being FRIGHTENED", () -> {
            FirstWords x = world("word 0;plain;plain fears 2;plain fears 3;plain fears 2 chance 0;");
            row(x, 1, 0, 2);
            row(x, 2, 0, 3);
            row(x, 4, 0, 2);
            row(x, 3, 0, 3);
            row(x, 8, 0, 3);
            // without 2 and 3 each kind must see 0 be so and 1 be so, and thinks 4
            noRow(x, 6, 0);
        });
        Check.sentence("of several rows the first by THINGS", () -> {
            FirstWords x = Check.told(CROSSED + "careful;");
            row(x, 1, 0, 0, 3);
            FirstWords y = world("word 0;proud;careful;");
            y.teach(0, 0);
            // of 2, 2 and 2, 3 and 3, 2 and 3, 3
            row(y, 1, 0, 2, 2);
            row(y, 2, 0, 1, 2);
            FirstWords z = Check.told("thing a;thing a;thing b;thing b;means -;means a;word 1;plain;plain fears 2;");
            row(z, 1, 0, 2);
            row(z, 2, 0, 3);
        });
        Check.sentence("TRUE SHOWINGS of it: false ones of now stay", () -> {
            FirstWords x = world("word 0;plain;");
            x.show(0, 1, false);
            noRow(x, 1, 0);
            x.undo();
            row(x, 1, 0, 2);
        });
    }

    private static void teaching() {
        Check.sentence("Promise 21: TEACHING from now on: how many SHOWINGS (what 0)", () -> {
            FirstWords x = world("word 0;word 1;careful;last;");
            row(x, 1, 0, 0, 1, 2);
            x.teach(0, 2);
            row(x, 1, 0, 0, 1);
            x.teach(0, 0);
            row(x, 1, 0, 1);
            x.teach(0, 1);
            row(x, 1, 0);
            Check.due("none came by it", x.count(4), 3);
            Check.due("none is thought by it", x.thinks(0, 1), -4);
            x.clear();
            row(x, 1, 0, 0, 1, 2);
        });
        Check.sentence("Promise 21: from now on: of 24 SHOWINGS, too", () -> {
            FirstWords x = world("word 0;word 1;plain;");
            for (int i = 0; i < 24; i++) x.show(1, 3, true);
            row(x, 1, 0, 2);
            noRow(x, 1, 1);
        });
        Check.sentence("Promise 21: 10 and i: THING i", () -> {
            FirstWords x = Check.told(ladder(5));
            for (int i = 0; i < 5; i++) Check.due("teaching(1, 0, " + (10 + i) + ")", x.teaching(1, 0, 10 + i), i);
            Check.due("teaching(1, 0, 15)", x.teaching(1, 0, 15), -1);
        });
        Check.sentence("Promise 21: BAD: also one that there is not", () -> {
            FirstWords x = world("word 0;word 4;plain;");
            Check.due("the only one", x.teaching(1, 0, 10), 2);
            Check.due("behind it", x.teaching(1, 0, 11), -1);
            x.teach(1, 0);
            Check.due("no more is wanted", x.teaching(1, 1, 0), 0);
            Check.due("of none", x.teaching(1, 1, 10), -1);
            Check.due("of no kinds", x.teaching(0, 0, 10), -1);
            Check.due("of no row", Check.told(ladder(6)).teaching(1, 0, 10), -1);
        });
        Check.sentence("Promise 21: BAD", () -> {
            FirstWords x = Check.told(Check.ALL_ROOM);
            // of all but thing 0: proud thinks b at first, and gives it up behind 2 and 3
            row(x, 63, 3, 0, 2, 3);
            for (int kinds : new int[] {64, 127, -1, -63}) Check.due("teaching(" + kinds + ", 0, 0)", x.teaching(kinds, 0, 0), -1);
            for (int n : Check.FAR) Check.due("teaching(" + n + ", 0, 0)", x.teaching(n, 0, 0), -1);
            for (int s : new int[] {4, -1}) Check.due("teaching(1, " + s + ", 0)", x.teaching(1, s, 0), -1);
            for (int n : Check.FAR) Check.due("teaching(0, " + n + ", 0)", x.teaching(0, n, 0), -1);
            for (int what : new int[] {-1, 1, 2, 5, 9, 15, 20}) Check.due("teaching(1, 0, " + what + ")", x.teaching(1, 0, what), -1);
            for (int n : Check.FAR) Check.due("teaching(1, 0, " + n + ")", x.teaching(1, 0, n), -1);
            Check.due("teaching(2, 0, 0) of one kind", Check.told("thing a;means a;word 0;plain;").teaching(2, 0, 0), -1);
        });
        Check.sentence("Promise 21: NONE: no such row (0", () -> {
            noRow(Check.told(ladder(6)), 1, 0);
            noRow(world("word 1;plain sees a;"), 1, 0);
            noRow(Check.told("means a;word 0;plain;"), 1, 0);
        });
        Check.sentence("Promise 21: also: one of them was FRIGHTENED)", () -> {
            FirstWords x = world("word 4;plain;plain fears 3;");
            x.teach(0, 0);
            row(x, 3, 0);
            x.teach(0, 3);
            row(x, 1, 0);
            noRow(x, 2, 0);
            noRow(x, 3, 0);
        });
        Check.sentence("Promise 21: (No KINDS: 0.)", () -> {
            FirstWords x = world("word 0;word 1;plain sees -;plain fears 0;");
            x.show(0, 0, false);
            row(x, 0, 0);
            row(x, 0, 1);
            row(Check.told("means a;word 0;"), 0, 0);
        });
    }

    private static void never() {
        Check.sentence("Promise 22: there is no MEANING that it CAN think that just those THINGS ARE (1, 0)", () -> {
            FirstWords x = Check.told("thing ab;thing c;thing -;means a;means b;means - not c;means d;word 0;word 3;word 2;"
                + "plain;plain sees a;plain sees b;plain sees c;plain sees d;plain sees - fears 0;");
            int[][] due = {{0, 0, 0, 1, 1, 1}, {0, 1, 1, 1, 0, 1}, {0, 1, 1, 0, 1, 1}};
            for (int s = 0; s < 3; s++) for (int k = 0; k < 6; k++) Check.due("never(" + k + ", " + s + ")", x.never(k, s), due[s][k]);
            x.show(0, 0, false);
            x.show(2, 0, false);
            Check.due("no showings are looked at", x.never(0, 0), 0);
            Check.due("all things are it", Check.told("thing a;means -;means a;word 1;plain sees -;").never(0, 0), 0);
            Check.due("no thing is it", Check.told("means a;means -;word 0;plain sees -;").never(0, 0), 0);
        });
        Check.sentence("Promise 22: BAD", () -> {
            FirstWords x = Check.told(Check.ALL_ROOM);
            Check.due("never(5, 3)", x.never(5, 3), 0);
            Check.due("never(6, 0)", x.never(6, 0), -1);
            Check.due("never(-1, 0)", x.never(-1, 0), -1);
            Check.due("never(0, 4)", x.never(0, 4), -1);
            Check.due("never(0, -1)", x.never(0, -1), -1);
            for (int n : Check.FAR) Check.due("never(" + n + ", 0)", x.never(n, 0), -1);
            for (int n : Check.FAR) Check.due("never(0, " + n + ")", x.never(0, n), -1);
        });
    }

    private static void orders() {
        Check.sentence("ORDER for some KINDS: from no SHOWINGS on", () -> {
            FirstWords x = world("word 0;word 4;plain;plain fears 0;");
            order(x, 3, 2, 0, 1);
            x.show(0, 0, false);
            x.show(1, 1, false);
            for (int i = 0; i < 22; i++) x.show(1, 3, true);
            order(x, 3, 2, 0, 1);
            Check.due("none came or went by it", x.count(4), 24);
            Check.due("nobody was frightened by it, or forgot it", x.fled(1), 0);
        });
        Check.sentence("ORDER .. all SOUNDS one behind another, each by TEACHING (what was taught ahead is thought)", () -> {
            // with b said already, one that takes no two sounds for one thing learns ab by less
            FirstWords x = world("word 2;word 1;plain unlike;plain;");
            order(x, 1, 2, 1, 0);
            order(x, 2, 3, 0, 1);
            // the first row by things, for the last kind, lets it think a of the second sound at once
            FirstWords y = world("word 0;word 0;last;plain;");
            order(y, 1, 2, 0, 1);
            Check.due("from a word like it", y.teaching(1, 1, 10), 2);
            y.teach(0, 2);
            Check.due("the latest it thought is it", y.teaching(1, 1, 10), 0);
        });
        Check.sentence("ORDER .. (3 at most)", () -> {
            order(Check.told(ladder(3)), 1, 3, 0);
            FirstWords four = Check.told(ladder(4));
            Check.due("teaching(1, 0, 0)", four.teaching(1, 0, 0), 4);
            order(four, 1, -4, -4);
            order(four, 2, 1, 0);
            order(four, 3, -4, -4);
        });
        Check.sentence("ORDER .. that of the fewest SHOWINGS in all", () -> {
            FirstWords x = world("word 2;word 3;word 1;plain unlike;");
            // ab by two and a without b by one and b by one, or, b ahead of ab, by one each
            order(x, 1, 3, 1, 2, 0);
        });
        Check.sentence("ORDER .. of several the first by SOUNDS", () -> {
            order(world("word 0;word 0;word 0;word 0;plain;"), 1, 4, 0, 1, 2, 3);
            order(world("word 3;word 1;word 4;word 0;plain;"), 1, 4, 0, 1, 2, 3);
        });
    }

    private static void order() {
        Check.sentence("Promise 23: how many SHOWINGS (what 0)", () -> {
            order(world("word 4;word 0;word 2;careful;plain;"), 2, 4, 0, 1, 2);
            order(world("word 4;plain sees -;"), 1, 1, 0);
        });
        Check.sentence("Promise 23: 10 and i: the SOUND taught as the i-th. BAD (there is none behind all SOUNDS)", () -> {
            FirstWords x = world("word 0;word 0;word 0;word 0;plain;");
            for (int i = 0; i < 4; i++) Check.due("order(1, " + (10 + i) + ")", x.order(1, 10 + i), i);
            Check.due("order(1, 14)", x.order(1, 14), -1);
            FirstWords y = world("word 0;plain;");
            Check.due("order(1, 10) of one", y.order(1, 10), 0);
            Check.due("order(1, 11) of one", y.order(1, 11), -1);
        });
        Check.sentence("Promise 23: BAD", () -> {
            FirstWords x = Check.told(Check.ALL_ROOM);
            for (int kinds : new int[] {64, 127, -1, -63}) Check.due("order(" + kinds + ", 0)", x.order(kinds, 0), -1);
            for (int n : Check.FAR) Check.due("order(" + n + ", 0)", x.order(n, 0), -1);
            for (int what : new int[] {-1, 1, 2, 4, 9, 14, 15, 20}) Check.due("order(1, " + what + ")", x.order(1, what), -1);
            for (int n : Check.FAR) Check.due("order(1, " + n + ")", x.order(1, n), -1);
            Check.due("order(2, 0) of one kind", Check.told("thing a;means a;word 0;plain;").order(2, 0), -1);
            Check.due("no sounds, and no such kinds", Check.told("thing a;").order(1, 0), -1);
        });
        Check.sentence("Promise 23: NONE: there is none", () -> {
            FirstWords x = world("word 0;word 1;plain sees a;plain;");
            order(x, 1, -4, -4, -4);
            order(x, 3, -4, -4, -4);
            order(x, 2, 2, 0, 1);
            Check.due("no things", Check.told("means a;word 0;plain;").order(1, 0), -4);
            Check.due("what is BAD is BAD nevertheless", x.order(1, 12), -1);
        });
        Check.sentence("Promise 23: (No SOUNDS: 0.)", () -> {
            FirstWords x = Check.told("thing a;means a;plain;plain;");
            for (int kinds = 0; kinds < 4; kinds++) Check.due("order(" + kinds + ", 0)", x.order(kinds, 0), 0);
            Check.due("order(1, 10)", x.order(1, 10), -1);
            Check.due("of a new object", new FirstWords().order(0, 0), 0);
        });
        Check.sentence("Promise 23: ORDER for no KINDS (TEACHING: No KINDS: 0.)", () -> order(world("word 0;word 1;plain sees -;"), 0, 0, 0, 1));
    }

    private static void fraction(FirstWords x, int s, int thing, int numerator, int denominator) {
        Check.due("first(" + s + ", 0)", x.first(s, 0), thing);
        Check.due("first(" + s + ", 1)", x.first(s, 1), numerator);
        Check.due("first(" + s + ", 2)", x.first(s, 2), denominator);
    }

    private static void first() {
        Check.sentence("Promise 24: From no SHOWINGS on", () -> {
            FirstWords x = world("word 0;plain;");
            fraction(x, 0, 2, 1, 1);
            x.show(0, 2, true);
            x.show(0, 0, false);
            fraction(x, 0, 2, 1, 1);
            Check.due("none came by it", x.count(4), 2);
        });
        Check.sentence("Promise 24: the THING whose TRUE SHOWING with a SOUND makes it the SAME for the most chance", () -> {
            // thing 0: all think 4; 2: {0, 2, 3}; 3: {0, 1, 2, 3}; of meaning 1 thing 1: {1, 2}; 2: {1, 4}; 3 as above
            FirstWords x = world("word 1;plain chance 3;careful chance 0;plain sees b chance 2;plain sees a chance 4;");
            fraction(x, 0, 1, 5, 9);
            FirstWords y = world("word 1;plain sees ab chance 1;careful sees b chance 4;plain sees - chance 3;");
            // careful of b: thing 1 not so leaves {1}, thing 3 not so {1}, the others not
            fraction(y, 0, 1, 5, 8);
        });
        Check.sentence("Promise 24: of those that no KIND with a chance fears", () -> {
            FirstWords x = world("word 0;plain;plain fears 2 chance 9;");
            fraction(x, 0, 3, 1, 1);
            FirstWords y = world("word 0;plain;plain fears 2 chance 0;");
            fraction(y, 0, 2, 1, 1);
            FirstWords z = world("word 0;plain;plain fears 2;plain fears 3 chance 2;");
            fraction(z, 0, 0, 0, 1);
        });
        Check.sentence("Promise 24: of several the least", () -> {
            fraction(world("word 4;plain;"), 0, 0, 1, 1);
            fraction(world("word 4;plain fears 0;"), 0, 1, 1, 1);
            fraction(world("word 2;plain;"), 0, 0, 0, 1);
            fraction(Check.told("thing a;".repeat(8) + "means a;word 0;plain;"), 0, 0, 1, 1);
        });
        Check.sentence("Fractions are in lowest terms, the denominator above 0 (0 is 0 by 1)", () -> {
            fraction(world("word 0;plain chance 6;plain sees b chance 4;"), 0, 2, 3, 5);
            fraction(world("word 0;plain sees b chance 9;last sees - chance 9;"), 0, 0, 0, 1);
            fraction(world("word 0;plain chance 9;last chance 9;"), 0, 2, 1, 1);
            fraction(world("word 0;plain chance 9;plain sees b chance 1;"), 0, 2, 9, 10);
        });
        Check.sentence("Promise 24: BAD", () -> {
            FirstWords x = Check.told(Check.ALL_ROOM);
            Check.due("first(3, 2)", x.first(3, 2), 1);
            for (int what = 0; what < 3; what++) {
                Check.due("first(4, " + what + ")", x.first(4, what), -1);
                Check.due("first(-1, " + what + ")", x.first(-1, what), -1);
                for (int n : Check.FAR) Check.due("first(" + n + ", " + what + ")", x.first(n, what), -1);
            }
            Check.due("first(0, 3)", x.first(0, 3), -1);
            Check.due("first(0, -1)", x.first(0, -1), -1);
            for (int n : Check.FAR) Check.due("first(0, " + n + ")", x.first(0, n), -1);
            FirstWords y = Check.told("means a;word 0;");
            Check.due("no chance, but a number that is wrong", y.first(0, 3), -1);
            Check.due("no chance, but no such sound", y.first(1, 0), -1);
        });
        Check.sentence("Promise 24: NONE: no THING", () -> {
            fraction(Check.told("means a;word 0;plain;"), 0, -4, -4, -4);
            fraction(Check.told("thing a;means a;word 0;plain fears 0;"), 0, -4, -4, -4);
            fraction(Check.told("thing a;thing b;means a;word 0;plain fears 0;plain fears 1;"), 0, -4, -4, -4);
        });
        Check.sentence("Promise 24: NONE: .. no chance", () -> {
            fraction(Check.told("thing a;means a;word 0;"), 0, -4, -4, -4);
            fraction(Check.told("thing a;means a;word 0;plain chance 0;proud chance 0;"), 0, -4, -4, -4);
        });
    }

    private static void fears() {
        Check.sentence("Promise 25: THINGS that KINDS with a chance fear (bits; what 0)", () -> {
            FirstWords x = Check.told("thing a;".repeat(8) + "plain fears 7;plain fears 0 chance 9;plain fears 3 chance 0;plain fears 7;plain;");
            Check.due("fears(0)", x.fears(0), 129);
            Check.due("of no kinds", Check.told("thing a;").fears(0), 0);
            Check.due("of no chance", Check.told("thing a;plain fears 0 chance 0;").fears(0), 0);
        });
        Check.sentence("Promise 25: that nobody fears (1)", () -> {
            FirstWords x = Check.told("thing a;".repeat(8) + "plain fears 7;plain fears 0 chance 9;plain fears 3 chance 0;plain fears 7;plain;");
            Check.due("fears(1)", x.fears(1), 118);
            Check.due("of no kinds", Check.told("thing a;".repeat(8)).fears(1), 255);
            Check.due("of no things", Check.told("plain;").fears(1), 0);
            Check.due("of one that is feared", Check.told("thing a;plain fears 0 chance 0;").fears(1), 0);
        });
        Check.sentence("Promise 25: BAD", () -> {
            FirstWords x = Check.told(Check.ALL_ROOM);
            Check.due("fears(0)", x.fears(0), 128);
            Check.due("fears(1)", x.fears(1), 127);
            Check.due("fears(2)", x.fears(2), -1);
            Check.due("fears(-1)", x.fears(-1), -1);
            for (int n : Check.FAR) Check.due("fears(" + n + ")", x.fears(n), -1);
        });
    }
}
