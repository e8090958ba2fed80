import java.math.BigInteger;

/** The sentences of promises 32 to 36, and of 'Terms' 2 that they use, that name a boundary case, each with a test of its own. */
public final class BoundsOfTheirSoundTest {
    public static void main(String[] args) {
        theirs();
        meant();
        build();
        draw();
        Check.finish();
    }

    private static void theirs() {
        Check.sentence("THEIR sound: THINGS that they showed with it (12)", () -> {
            FirstWords x = Check.told("thing a;thing b;means a;");
            for (int i = 1; i <= 12; i++) Check.due("theirs " + i, x.theirs(i % 2, i % 2 == 0), i);
            Check.due("theirs 13", x.theirs(0, true), -3);
            Check.due("count(5)", x.count(5), 12);
        });
        Check.sentence("THEIR sound .. so, or not", () -> {
            FirstWords x = Check.told("thing a;thing b;means a;means b;");
            x.theirs(0, true);
            Check.due("so", x.meant(2), 1);
            x.hush();
            x.theirs(0, false);
            Check.due("not so", x.meant(2), 2);
            x.theirs(0, true);
            Check.due("both", x.meant(2), 0);
        });
        Check.sentence("Promise 32: BAD", () -> {
            FirstWords x = Check.told(Check.ALL_ROOM);
            Check.due("theirs(8, true)", x.theirs(8, true), -1);
            Check.due("theirs(-1, false)", x.theirs(-1, false), -1);
            for (int n : Check.FAR) Check.due("theirs(" + n + ", true)", x.theirs(n, true), -1);
            Check.due("count(5)", x.count(5), 0);
            Check.due("theirs(7, true)", x.theirs(7, true), 1);
            Check.due("theirs(1, true) of one", Check.told("thing a;").theirs(1, true), -1);
            Check.due("theirs(0, true) of none", Check.told("means a;").theirs(0, true), -1);
        });
        Check.sentence("Promise 32: FULL (BAD is the first that fits)", () -> {
            FirstWords x = Check.told("thing a;thing b;means a;means b;");
            for (int i = 0; i < 11; i++) x.theirs(0, true);
            Check.due("the 12th", x.theirs(0, true), 12);
            Check.due("the 13th", x.theirs(0, false), -3);
            Check.due("it changes nothing", x.meant(2), 1);
            Check.due("theirs(2, true)", x.theirs(2, true), -1);
            Check.due("theirs(-1, true)", x.theirs(-1, true), -1);
        });
        Check.sentence("Promise 33: THEIR sound is forgotten: how many there were", () -> {
            FirstWords x = Check.told("thing a;thing b;means a;means b;");
            Check.due("of none", x.hush(), 0);
            x.theirs(0, true);
            Check.due("of one", x.hush(), 1);
            Check.due("once more", x.hush(), 0);
            Check.due("all fit", x.meant(2), 3);
            for (int i = 0; i < 12; i++) x.theirs(1, true);
            Check.due("of twelve", x.hush(), 12);
            Check.due("there is room again", x.theirs(0, true), 1);
            Check.due("meant(2)", x.meant(2), 1);
            Check.due("hush() of a new object", new FirstWords().hush(), 0);
        });
    }

    private static void meant(FirstWords x, int many, int plainest, int these, int thing) {
        Check.due("meant(0)", x.meant(0), many);
        Check.due("meant(1)", x.meant(1), plainest);
        Check.due("meant(2)", x.meant(2), these);
        Check.due("meant(3)", x.meant(3), thing);
    }

    private static void meant() {
        Check.sentence("Promise 34: MEANINGS that FIT THEIR sound: how many (what 0)", () -> {
            FirstWords x = Check.told(Check.ALL_ROOM);
            Check.due("all twelve", x.meant(0), 12);
            x.theirs(7, true);
            // h, all, all without a
            Check.due("three", x.meant(0), 3);
            x.theirs(7, false);
            Check.due("none", x.meant(0), 0);
            Check.due("of none", Check.told("thing a;").meant(0), 0);
            FirstWords y = Check.told("thing a;means a;word 0;plain sees -;");
            Check.due("no kinds are looked at", y.meant(0), 1);
            y.show(0, 0, false);
            Check.due("nor showings", y.meant(0), 1);
        });
        Check.sentence("Promise 34: the PLAINEST (1; NONE)", () -> {
            FirstWords x = Check.told("thing ab;thing a;" + "means ab;".repeat(10) + "means a;means b;");
            Check.due("of all", x.meant(1), 10);
            x.theirs(1, false);
            Check.due("the last one", x.meant(1), 11);
            x.theirs(0, false);
            Check.due("of none", x.meant(1), -4);
            Check.due("of no meanings", Check.told("thing a;").meant(1), -4);
        });
        Check.sentence("Promise 34: these (2, bits)", () -> {
            FirstWords x = Check.told(Check.ALL_ROOM);
            Check.due("all", x.meant(2), 4095);
            x.theirs(0, false);
            // all but a and -
            Check.due("those that thing 0 is not", x.meant(2), 4095 - 1 - 256);
            x.theirs(0, true);
            Check.due("none", x.meant(2), 0);
        });
        Check.sentence("Promise 34: the THING by which the most of them are sure to go", () -> {
            // 0 is of 0, 1; 1 is of 0, 2; 2 is of 0; 3 is of all but 0
            FirstWords x = Check.told("thing ab;thing ac;thing a;thing bcd;means a;means b;means c;means d;means bc;means cd;");
            Check.due("two go, so or not, by 0 and by 1", x.meant(3), 0);
            x.theirs(0, false);
            // of 2, 3, 4, 5: 1 is of 2; 3 of all
            Check.due("one goes by 1 at least", x.meant(3), 1);
            x.theirs(1, false);
            Check.due("none is sure to go: all three are alike", x.meant(3), 0);
        });
        Check.sentence("Promise 34: of several the least", () -> {
            Check.due("by none any goes", Check.told("thing a;".repeat(8) + "means a;means b;").meant(3), 0);
            Check.due("by 1, 2, 3 one goes", Check.told("thing -;thing a;thing b;thing a;means a;means b;").meant(3), 1);
            Check.due("by the last alone", Check.told("thing c;".repeat(7) + "thing a;means a;means b;").meant(3), 7);
        });
        Check.sentence("Promise 34: (3; NONE: none FITS", () -> {
            FirstWords x = Check.told("thing a;means a;");
            x.theirs(0, false);
            meant(x, 0, -4, 0, -4);
            meant(Check.told("thing a;"), 0, -4, 0, -4);
        });
        Check.sentence("Promise 34: .. no THINGS)", () -> meant(Check.told("means ab;means a;"), 2, 1, 3, -4));
        Check.sentence("Promise 34: BAD", () -> {
            FirstWords x = Check.told(Check.ALL_ROOM);
            Check.due("meant(4)", x.meant(4), -1);
            Check.due("meant(-1)", x.meant(-1), -1);
            for (int n : Check.FAR) Check.due("meant(" + n + ")", x.meant(n), -1);
            Check.due("meant(4) of a new object", new FirstWords().meant(4), -1);
        });
    }

    private static void build(FirstWords x, int m, int way, int one, int other) {
        Check.due("build(" + m + ", 0)", x.build(m, 0), way);
        Check.due("build(" + m + ", 1)", x.build(m, 1), one);
        Check.due("build(" + m + ", 2)", x.build(m, 2), other);
    }

    private static void build() {
        Check.sentence("Promise 35: those THINGS ARE it that ARE the TARGET of one (1)", () -> {
            FirstWords x = Check.told("thing ab;thing c;means a;means b;means c;means d;means -;word 2;word 0;");
            build(x, 1, 1, 1, -4);
            build(x, 2, 1, 0, -4);
            build(Check.told("means a;means b;word 0;"), 1, 1, 0, -4);
        });
        Check.sentence("Promise 35: of two unlike ones both (2)", () -> {
            FirstWords x = Check.told("thing ab;thing a;thing b;means a;means b;means ab;means c;word 0;word 1;");
            build(x, 2, 2, 0, 1);
            FirstWords y = Check.told("thing a;thing b;means a;means b;means ab;word 0;");
            build(y, 2, -4, -4, -4);
            FirstWords z = Check.told("thing a;thing b;means a;means b;means ab;word 0;word 1;");
            build(z, 2, 2, 0, 1);
        });
        Check.sentence("Promise 35: of one and not of another one (3)", () -> {
            FirstWords x = Check.told("thing ab;thing a;thing b;means a;means b;means a not b;means b not a;word 0;word 1;");
            build(x, 2, 3, 0, 1);
            build(x, 3, 3, 1, 0);
            // nothing is meaning 1, and one is no other than itself
            build(Check.told("thing a;means a;means b;word 0;"), 1, -4, -4, -4);
            build(Check.told("thing a;means a;means b;word 0;word 0;"), 1, 3, 0, 1);
        });
        Check.sentence("Promise 35: the first of these that does (what 0)", () -> {
            // no thing is meaning 2: by sound 2 alone, by 0 and 1, by 2 and not 0
            FirstWords x = Check.told("thing a;thing b;means a;means b;means c;word 0;word 1;word 2;");
            build(x, 2, 1, 2, -4);
            FirstWords y = Check.told("thing a;thing b;means a;means b;means c;word 0;word 1;word 0;");
            build(y, 2, 2, 0, 1);
        });
        Check.sentence("Promise 35: the SOUNDS (1, 2; NONE: none)", () -> {
            FirstWords x = Check.told("thing a;means a;word 0;");
            Check.due("build(0, 2)", x.build(0, 2), -4);
            FirstWords y = Check.told("thing ab;thing a;thing b;thing c;means a;means b;means ab;means c;word 3;word 3;word 1;word 0;");
            build(y, 2, 2, 2, 3);
            Check.due("by sound 3 alone", y.build(0, 1), 3);
        });
        Check.sentence("Promise 35: of several the first by the one, then the other", () -> {
            FirstWords x = Check.told("thing ab;thing a;thing b;means a;means b;means ab;means a not b;word 0;word 0;word 1;word 1;");
            build(x, 0, 1, 0, -4);
            build(x, 1, 1, 2, -4);
            build(x, 2, 2, 0, 2);
            build(x, 3, 3, 0, 2);
            // a without b by 1 and not 0, or by 1 and not 3; the one goes ahead of the other
            FirstWords y = Check.told("thing ab;thing a;thing b;means b;means a;means a not b;word 0;word 1;word 1;word 0;");
            build(y, 2, 3, 1, 0);
        });
        Check.sentence("Promise 35: BAD", () -> {
            FirstWords x = Check.told(Check.ALL_ROOM);
            Check.due("build(11, 0)", x.build(11, 0), 2);
            for (int what = 0; what < 3; what++) {
                Check.due("build(12, " + what + ")", x.build(12, what), -1);
                Check.due("build(-1, " + what + ")", x.build(-1, what), -1);
                for (int n : Check.FAR) Check.due("build(" + n + ", " + what + ")", x.build(n, what), -1);
            }
            Check.due("build(0, 3)", x.build(0, 3), -1);
            Check.due("build(0, -1)", x.build(0, -1), -1);
            for (int n : Check.FAR) Check.due("build(0, " + n + ")", x.build(0, n), -1);
            FirstWords y = Check.told("thing a;means a;");
            Check.due("none does, but a number that is wrong", y.build(0, 3), -1);
            Check.due("build(1, 0) of one", y.build(1, 0), -1);
        });
        Check.sentence("Promise 35: NONE: none does (0)", () -> {
            build(Check.told("thing a;means a;"), 0, -4, -4, -4);
            build(Check.told("thing ab;thing a;thing b;means ab;means a;word 1;word 1;"), 0, -4, -4, -4);
            build(Check.told("thing a;means -;means b;word 1;word 1;word 1;word 1;"), 0, -4, -4, -4);
        });
    }

    /** The kind of a seed, reckoned without any wrap-around: chances are 0, 1, 0, 4, 0, 2. */
    private static int drawn(int seed) {
        BigInteger wide = BigInteger.valueOf(seed).multiply(BigInteger.valueOf(1103515245)).add(BigInteger.valueOf(12345));
        int bits = wide.shiftRight(16).and(BigInteger.valueOf(32767)).intValue();
        int rest = bits % 7;
        return rest < 1 ? 1 : rest < 5 ? 3 : 5;
    }

    private static void draw() {
        String chances = "plain chance 0;plain;plain chance 0;plain chance 4;plain chance 0;plain chance 2;";
        Check.sentence("A DRAWN KIND: the seed (an int) becomes seed times 1103515245 and 12345", () -> {
            FirstWords x = Check.told(chances);
            int[] seeds = {0, 1, -1, 2, 77, 65535, 65536, 1 << 30, -(1 << 30), Integer.MAX_VALUE, Integer.MIN_VALUE, Integer.MIN_VALUE + 1};
            for (int seed : seeds) Check.due("draw(" + seed + ")", x.draw(seed), drawn(seed));
            for (int i = 0; i < 400; i++) Check.due("draw(" + i * 7654321 + ")", x.draw(i * 7654321), drawn(i * 7654321));
        });
        Check.sentence("the seed .. becomes seed times 1103515245 and 12345 (one more or less makes the least of the bits another)", () -> {
            FirstWords x = Check.told("plain;plain;");
            int least = 0, most = 0;
            for (int seed = 0; seed < 65536; seed++) {
                int low = seed * 1103515245 + 12345 & 65535;
                if (low == 0) least = seed;
                if (low == 65535) most = seed;
            }
            for (int seed : new int[] {least, most}) Check.due("draw(" + seed + ")", x.draw(seed), seed * 1103515245 + 12345 >> 16 & 1);
        });
        Check.sentence("bits 16 to 30 of it", () -> {
            // 12345 alone has no bit from 16 on; of seed 1 the bits are 16838, and bit 31 is not set; of seed 2 908
            FirstWords x = Check.told("plain chance 8;plain;");
            Check.due("draw(0)", x.draw(0), 0);
            Check.due("16838 modulo 9 is 8", x.draw(1), 1);
            Check.due("908 modulo 9 is 8", x.draw(2), 1);
            FirstWords y = Check.told("plain;plain;");
            boolean withSign = false;
            for (int seed = 0; seed < 40; seed++) {
                int all = seed * 1103515245 + 12345;
                withSign |= all < 0;
                Check.due("the lowest of the bits of " + seed, y.draw(seed), all >> 16 & 1);
            }
            Check.holds("some had bit 31", withSign);
        });
        Check.sentence("modulo the sum of chances: KINDS one behind another", () -> {
            FirstWords x = Check.told(chances);
            boolean[] came = new boolean[6];
            for (int seed = 0; seed < 100; seed++) {
                int k = x.draw(seed);
                Check.due("draw(" + seed + ")", k, drawn(seed));
                if (k >= 0 && k < 6) came[k] = true;
            }
            for (int k = 0; k < 6; k++) Check.holds("kind " + k + " came if it has a chance", came[k] == (k % 2 == 1));
            FirstWords y = Check.told("plain chance 9;".repeat(6));
            for (int seed = 0; seed < 200; seed++) Check.due("of 54: draw(" + seed + ")", y.draw(seed), (seed * 1103515245 + 12345 >>> 16 & 32767) % 54 / 9);
            FirstWords z = Check.told("plain;");
            for (int seed = -50; seed < 50; seed++) Check.due("of one: draw(" + seed + ")", z.draw(seed), 0);
        });
        Check.sentence("Promise 36: NONE: no chance", () -> {
            Check.due("of no kinds", Check.told("thing a;").draw(1), -4);
            Check.due("of a new object", new FirstWords().draw(0), -4);
            Check.due("of kinds without one", Check.told("plain chance 0;proud chance 0;").draw(1), -4);
        });
        Check.sentence("Promise 36: A KIND is DRAWN by a seed (whoever is LEFT, and frightened or not)", () -> {
            FirstWords x = Check.told("thing a;means a;word 0;plain fears 0 chance 2;");
            x.show(0, 0, true);
            x.heard(0, 0, 1);
            Check.due("left(0)", x.left(0), 0);
            Check.due("draw(1)", x.draw(1), 0);
        });
    }
}
