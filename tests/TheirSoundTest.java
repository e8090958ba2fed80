/** Promises 32 to 36: their sound, what it meant, meanings built of sounds, a kind drawn. */
public final class TheirSoundTest {
    public static void main(String[] args) {
        theirsAndHush();
        meant();
        meantByTheMostTelling();
        meantOfNone();
        build();
        buildTheFirst();
        buildOfNone();
        draw();
        Check.finish();
    }

    private static void theirsAndHush() {
        FirstWords x = Check.told("thing a;thing b;means a;");
        Check.due("theirs(2, true)", x.theirs(2, true), -1);
        Check.due("theirs(-1, true)", x.theirs(-1, true), -1);
        for (int i = 1; i <= 12; i++) Check.due("theirs " + i, x.theirs(i % 2, i % 2 == 0), i);
        Check.due("theirs 13", x.theirs(0, true), -3);
        Check.due("a wrong number first", x.theirs(2, true), -1);
        Check.due("count(5)", x.count(5), 12);
        Check.due("hush()", x.hush(), 12);
        Check.due("hush() again", x.hush(), 0);
        Check.due("count(5)", x.count(5), 0);
        Check.due("theirs again", x.theirs(1, false), 1);
        Check.due("clear() is of other showings", x.clear(), 0);
        Check.due("count(5)", x.count(5), 1);
    }

    private static void meant(FirstWords x, int many, int plainest, int these, int thing) {
        Check.due("meant(0)", x.meant(0), many);
        Check.due("meant(1)", x.meant(1), plainest);
        Check.due("meant(2)", x.meant(2), these);
        Check.due("meant(3)", x.meant(3), thing);
    }

    private static void meant() {
        FirstWords x = Check.told("thing ab;thing a;thing b;thing -;means ab;means b;means a;means a not b;means -;");
        // is: thing 0 {0, 1, 2, 4}, 1 {2, 3, 4}, 2 {1, 4}, 3 {4}
        meant(x, 5, 4, 31, 1);
        x.theirs(0, true);
        meant(x, 4, 4, 23, 1);
        x.theirs(3, false);
        meant(x, 3, 1, 7, 1);
        x.theirs(2, false);
        meant(x, 2, 2, 5, 1);
        x.theirs(1, true);
        meant(x, 1, 2, 4, 0);
        x.theirs(0, false);
        meant(x, 0, -4, 0, -4);
        Check.due("meant(4)", x.meant(4), -1);
        Check.due("meant(-1)", x.meant(-1), -1);
        x.hush();
        meant(x, 5, 4, 31, 1);
    }

    private static void meantByTheMostTelling() {
        FirstWords x = Check.told("thing ab;thing ac;thing a;thing bcd;means a;means b;means c;means d;means bc;means cd;");
        // thing 0 is {0, 1}, 1 {0, 2}, 2 {0}, 3 all but 0
        meant(x, 6, 0, 63, 0);
        x.theirs(2, false);
        // thing 0 is 1, 1 is 2, 3 is all
        meant(x, 5, 1, 62, 0);
        FirstWords y = Check.told("thing a;thing ab;thing b;means a;means ab;means a not b;means - not c;");
        // thing 0 is {0, 2, 3}, 1 {0, 1, 3}, 2 {3}
        meant(y, 4, 0, 15, 0);
        y.theirs(1, true);
        // of {0, 1, 3}: thing 0 is {0, 3}, 1 all, 2 {3}
        meant(y, 3, 0, 11, 0);
        y.theirs(0, true);
        // of {0, 3}: only thing 2 tells
        meant(y, 2, 0, 9, 2);
    }

    private static void meantOfNone() {
        meant(Check.told("thing a;"), 0, -4, 0, -4);
        meant(Check.told("means ab;means a;"), 2, 1, 3, -4);
        meant(Check.told("thing b;means a;"), 1, 0, 1, 0);
    }

    private static void build(FirstWords x, int m, int way, int one, int other) {
        Check.due("build(" + m + ", 0)", x.build(m, 0), way);
        Check.due("build(" + m + ", 1)", x.build(m, 1), one);
        Check.due("build(" + m + ", 2)", x.build(m, 2), other);
    }

    private static void build() {
        FirstWords x = Check.told("thing ab;thing a;thing b;thing -;"
            + "means a;means b;means ab;means a not b;means b not a;means -;means c;word 5;word 0;word 1;");
        build(x, 0, 1, 1, -4);
        build(x, 1, 1, 2, -4);
        build(x, 5, 1, 0, -4);
        build(x, 2, 2, 1, 2);
        build(x, 3, 3, 1, 2);
        build(x, 4, 3, 2, 1);
        // no thing is c: a without all
        build(x, 6, 3, 1, 0);
        Check.due("build(7, 0)", x.build(7, 0), -1);
        Check.due("build(-1, 0)", x.build(-1, 0), -1);
        Check.due("build(0, 3)", x.build(0, 3), -1);
        Check.due("build(0, -1)", x.build(0, -1), -1);
    }

    private static void buildTheFirst() {
        FirstWords x = Check.told("thing abc;thing ab;thing c;means ab;means a;means b;means abc;means c;word 1;word 2;word 4;");
        build(x, 0, 1, 0, -4);
        build(x, 3, 2, 0, 2);
        FirstWords y = Check.told("thing ab;thing c;thing a;means a not b;means a;means b;means c;word 3;word 1;word 2;word 2;");
        // a without b, by sound 1 without 2 or 3
        build(y, 0, 3, 1, 2);
        // one alone goes ahead of two, both ways
        build(y, 2, 1, 2, -4);
        // two words for one thing: that both are is said by one
        FirstWords z = Check.told("thing a;thing b;means a;means - not a;means c;word 0;word 0;");
        build(z, 0, 1, 0, -4);
        build(z, 2, 3, 0, 1);
        build(z, 1, -4, -4, -4);
    }

    private static void buildOfNone() {
        build(Check.told("thing a;means a;"), 0, -4, -4, -4);
        build(Check.told("thing ab;thing a;means ab;means a;word 1;"), 0, -4, -4, -4);
        build(Check.told("means ab;means a;word 1;"), 0, 1, 0, -4);
        build(Check.told("thing a;means b;means a;word 1;"), 0, -4, -4, -4);
    }

    private static void draw() {
        FirstWords x = Check.told("plain chance 4;proud chance 2;careful chance 3;last chance 0;");
        Check.due("draw(1)", x.draw(1), 2);   // 16838 modulo 9 is 8
        Check.due("draw(0)", x.draw(0), 0);   // 12345 has no bits from 16 on
        Check.due("draw(77)", x.draw(77), 0);
        FirstWords y = Check.told("plain chance 0;plain;plain chance 0;plain chance 2;");
        boolean[] came = new boolean[4];
        for (int seed = -100; seed < 100; seed++) {
            long wide = (long) seed * 1103515245L + 12345L;
            int rest = (int) (wide >> 16 & 32767) % 3;
            int kind = rest == 0 ? 1 : 3;
            Check.due("draw(" + seed + ")", y.draw(seed), kind);
            came[kind] = true;
        }
        Check.holds("both came", came[1] && came[3]);
        int[] far = {Integer.MAX_VALUE, Integer.MIN_VALUE, -1, 1 << 30, 65535};
        for (int seed : far) {
            long wide = (long) seed * 1103515245L + 12345L;
            Check.due("draw(" + seed + ")", y.draw(seed), (wide >> 16 & 32767) % 3 == 0 ? 1 : 3);
        }
        Check.due("no chance", Check.told("plain chance 0;last chance 0;").draw(3), -4);
        Check.due("no kinds", Check.told("thing a;").draw(3), -4);
    }
}
