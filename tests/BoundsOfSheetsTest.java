/** The sentences of promises 37 to 43, and of 'Terms' 2 on sheets, that name a boundary case, each with a test of its own. */
public final class BoundsOfSheetsTest {
    private static final String WORLD = "thing a;thing b;thing ab;means a;means b;word 0;word 1;plain;proud;last fears 2;";

    public static void main(String[] args) {
        keep();
        back();
        sheets();
        sheet();
        lay();
        read();
        readOfTheTorn();
        readOfTheRefused();
        torn();
        count();
        Check.finish();
    }

    private static void fill(FirstWords x, int k, int lane, int n, int... cells) {
        x.sheet(k, lane, n);
        for (int i = 0; i < cells.length; i++) x.lay(k, i, cells[i]);
    }

    private static void shown(FirstWords x, int i, int s, int t, int so) {
        Check.due("shown(" + i + ", 0)", x.shown(i, 0), s);
        Check.due("shown(" + i + ", 1)", x.shown(i, 1), t);
        Check.due("shown(" + i + ", 2)", x.shown(i, 2), so);
    }

    // ---- images

    private static void keep() {
        Check.sentence("Promise 37: IMAGE i (0, 1) .. whether there was one (1, 0)", () -> {
            FirstWords x = Check.told(WORLD);
            Check.due("keep(1)", x.keep(1), 0);
            Check.due("keep(1)", x.keep(1), 1);
            Check.due("keep(0)", x.keep(0), 0);
            Check.due("keep(0)", x.keep(0), 1);
            Check.due("of a new object", new FirstWords().keep(0), 0);
        });
        Check.sentence("Promise 37: IMAGE i is all SHOWINGS, LEFT, THEIR sound (none, and all that there is room for)", () -> {
            FirstWords x = Check.told(WORLD);
            x.keep(0);
            for (int i = 0; i < 24; i++) {
                x.show(i % 2, i % 3, i % 5 == 0);
                // none fits, proud holds on, the last one is frightened
                if (i == 2) Check.due("heard(0, 0, 1)", x.heard(0, 0, 1), 2);
            }
            for (int i = 0; i < 12; i++) x.theirs(0, true);
            x.keep(1);
            Check.due("back(0)", x.back(0), 0);
            Check.due("count(4)", x.count(4), 0);
            Check.due("count(5)", x.count(5), 0);
            Check.due("left(0)", x.left(0), 7);
            Check.due("undo()", x.undo(), -4);
            Check.due("back(1)", x.back(1), 24);
            for (int i = 0; i < 24; i++) shown(x, i, i % 2, i % 3, i % 5 == 0 ? 1 : 0);
            Check.due("count(5)", x.count(5), 12);
            Check.due("meant(2)", x.meant(2), 1);
            Check.due("left(0)", x.left(0), 2);
            Check.due("no more showings", x.show(0, 0, true), -3);
            Check.due("no more of theirs", x.theirs(0, true), -3);
        });
        Check.sentence("Promise 37: .. in place of what it was", () -> {
            FirstWords x = Check.told(WORLD);
            for (int i = 0; i < 5; i++) x.show(0, 1, true);
            x.keep(0);
            x.clear();
            x.show(1, 0, false);
            Check.due("keep(0)", x.keep(0), 1);
            x.clear();
            Check.due("back(0)", x.back(0), 1);
            shown(x, 0, 1, 0, 0);
        });
        Check.sentence("Promise 37: BAD", () -> {
            FirstWords x = Check.told(WORLD);
            Check.due("keep(2)", x.keep(2), -1);
            Check.due("keep(-1)", x.keep(-1), -1);
            for (int n : Check.FAR) Check.due("keep(" + n + ")", x.keep(n), -1);
            Check.due("count(6)", x.count(6), 0);
        });
    }

    private static void back() {
        Check.sentence("Promise 38: All is as IMAGE i: how many SHOWINGS", () -> {
            FirstWords x = Check.told(WORLD);
            x.show(0, 0, true);
            x.show(0, 1, true);
            Check.due("against(1, 0)", x.against(1, 0), 1);
            x.keep(1);
            x.show(0, 2, false);
            Check.due("against(1, 0)", x.against(1, 0), 0);
            Check.due("fled(2)", x.fled(2), 2);
            Check.due("back(1)", x.back(1), 2);
            Check.due("against(1, 0)", x.against(1, 0), 1);
            Check.due("fled(2)", x.fled(2), -4);
            Check.due("thinks(1, 0)", x.thinks(1, 0), 0);
            Check.due("thinks(0, 0)", x.thinks(0, 0), -4);
            Check.due("fits(0, 0)", x.fits(0, 0), 0);
            Check.due("the image stays", x.back(1), 2);
        });
        Check.sentence("Promise 38: All is as IMAGE i (what comes behind it leaves it)", () -> {
            FirstWords x = Check.told(WORLD);
            x.show(0, 0, true);
            x.theirs(0, true);
            x.keep(0);
            x.undo();
            x.show(1, 2, false);
            x.hush();
            x.theirs(1, false);
            x.theirs(1, false);
            x.back(0);
            x.undo();
            x.show(1, 1, false);
            x.hush();
            x.theirs(1, true);
            Check.due("back(0)", x.back(0), 1);
            shown(x, 0, 0, 0, 1);
            Check.due("count(5)", x.count(5), 1);
            Check.due("meant(2)", x.meant(2), 1);
        });
        Check.sentence("Promise 38: All is as IMAGE i (each thing of THEIR sound, and whether it was so)", () -> {
            FirstWords x = Check.told("thing a;thing b;thing ab;means a;means b;means ab;means -;");
            x.theirs(0, false);
            x.theirs(1, true);
            x.keep(0);
            x.hush();
            x.theirs(2, true);
            x.theirs(0, true);
            x.theirs(1, false);
            x.keep(1);
            Check.due("a", x.meant(2), 1);
            x.back(0);
            Check.due("b, of the first image", x.meant(2), 2);
            x.back(1);
            Check.due("a, of the other", x.meant(2), 1);
            x.hush();
            for (int i = 0; i < 12; i++) x.theirs(2, false);
            x.back(0);
            Check.due("b once more", x.meant(2), 2);
            Check.due("count(5)", x.count(5), 2);
        });
        Check.sentence("Promise 38: BAD (the first that fits)", () -> {
            FirstWords x = Check.told(WORLD);
            Check.due("back(2)", x.back(2), -1);
            Check.due("back(-1)", x.back(-1), -1);
            for (int n : Check.FAR) Check.due("back(" + n + ")", x.back(n), -1);
            x.keep(0);
            x.keep(1);
            Check.due("back(2)", x.back(2), -1);
        });
        Check.sentence("Promise 38: STATE: there is none", () -> {
            FirstWords x = Check.told(WORLD);
            x.show(0, 0, true);
            Check.due("back(0)", x.back(0), -2);
            Check.due("back(1)", x.back(1), -2);
            x.keep(0);
            Check.due("back(1) still", x.back(1), -2);
            Check.due("it changes nothing", x.count(4), 1);
            Check.due("back(0)", x.back(0), 1);
            FirstWords y = Check.told(WORLD);
            y.keep(1);
            Check.due("back(0) of the other", y.back(0), -2);
            Check.due("of a new object", new FirstWords().back(1), -2);
        });
    }

    // ---- sheets

    private static void sheets() {
        Check.sentence("SHEETS 0 to 3", () -> {
            FirstWords x = Check.told(WORLD);
            for (int k = 0; k < 4; k++) Check.due("sheet(" + k + ", 0, 3)", x.sheet(k, 0, 3), 1);
            for (int k = 0; k < 4; k++) Check.due("lay(" + k + ", 1, 1)", x.lay(k, 1, k % 3), 1);
            for (int k = 0; k < 4; k++) Check.due("read(" + k + ", 0, 0, 1)", x.read(k, 0, 0, 1), 1);
            for (int k = 0; k < 4; k++) shown(x, k, 0, k % 3, 0);
            for (int k : new int[] {4, -1}) {
                Check.due("sheet(" + k + ", 0, 3)", x.sheet(k, 0, 3), -1);
                Check.due("lay(" + k + ", 0, 0)", x.lay(k, 0, 0), -1);
                Check.due("read(" + k + ", 0, 0, 1)", x.read(k, 0, 0, 1), -1);
            }
        });
        Check.sentence("rows of BYTES (lane 0), SHORTS (1), INTS (2), all with a sign", () -> {
            // what is laid for a thing, and the thing that it is then in each lane: -1 for none
            int[][] laid = {{7, 7, 7, 7}, {8, -1, -1, -1}, {-1, -1, -1, -1}, {127, -1, -1, -1}, {128, -1, -1, -1}, {255, -1, -1, -1}, {256, 0, -1, -1},
                {263, 7, -1, -1}, {-256, 0, -1, -1}, {-249, 7, -1, -1}, {32767, -1, -1, -1}, {32768, 0, -1, -1}, {32775, 7, -1, -1}, {65535, -1, -1, -1},
                {65536, 0, 0, -1}, {65543, 7, 7, -1}, {-65536, 0, 0, -1}, {1 << 30, 0, 0, -1}, {Integer.MAX_VALUE, -1, -1, -1},
                {Integer.MIN_VALUE, 0, 0, -1}, {Integer.MIN_VALUE + 7, 7, 7, -1}, {65664, -1, -1, -1}};
            for (int lane = 0; lane < 3; lane++) {
                FirstWords x = Check.told("thing a;".repeat(8) + "means a;word 0;");
                x.sheet(1, lane, 3);
                for (int[] l : laid) {
                    x.lay(1, 1, l[0]);
                    int t = l[1 + lane];
                    Check.due("lane " + lane + ", laid " + l[0], x.read(1, lane, 0, 1), t < 0 ? -20 : 1);
                    if (t >= 0) Check.due("lane " + lane + ", laid " + l[0] + ": the thing", x.shown(x.count(4) - 1, 1), t);
                }
            }
        });
        Check.sentence("with 0 to 40 CELLS", () -> {
            FirstWords x = Check.told(WORLD);
            for (int lane = 0; lane < 3; lane++) {
                Check.due("sheet(0, lane, 0)", x.sheet(0, lane, 0), 1);
                Check.due("count(8)", x.count(8), 0);
                Check.due("lay(0, 0, 0)", x.lay(0, 0, 0), -12);
                Check.due("sheet(0, lane, 40)", x.sheet(0, lane, 40), 1);
                Check.due("count(8)", x.count(8), 40);
                Check.due("lay(0, 39, 0)", x.lay(0, 39, 0), 1);
                Check.due("lay(0, 40, 0)", x.lay(0, 40, 0), -12);
                Check.due("sheet(0, lane, 41)", x.sheet(0, lane, 41), -1);
            }
        });
        Check.sentence("or nothing (at first)", () -> {
            FirstWords x = Check.told(WORLD);
            Check.due("count(8)", x.count(8), -4);
            for (int k = 0; k < 4; k++) Check.due("lay(" + k + ", 0, 0)", x.lay(k, 0, 0), -11);
            for (int k = 0; k < 4; k++) Check.due("read(" + k + ", 2, 0, 1)", x.read(k, 2, 0, 1), 0);
            Check.due("torn()", x.torn(), 1);
        });
        Check.sentence("A FAULT is what the machine finds: 1 NULL (nothing), 2 INDEX, 3 CAST (another lane), 4 SIZE (below 0)", () -> {
            FirstWords x = Check.told(WORLD);
            x.sheet(0, 0, 3);
            x.read(1, 0, 0, 1);
            Check.due("NULL", x.torn(), 1);
            x.read(0, 0, 1, 1);
            Check.due("INDEX", x.torn(), 2);
            x.read(0, 1, 0, 1);
            Check.due("CAST", x.torn(), 3);
            Check.due("SIZE", x.sheet(0, 0, -1), -14);
            x.read(1, 2, -1, 1);
            Check.due("nothing is of any lane, and has no cells", x.torn(), 1);
            x.read(0, 2, -1, 1);
            Check.due("another lane is met ahead of the cells", x.torn(), 3);
        });
    }

    private static void sheet() {
        Check.sentence("Promise 39: A SHEET is a new row of CELLS 0: 1", () -> {
            FirstWords x = Check.told(WORLD);
            fill(x, 0, 2, 40, 1, 2, 1);
            x.lay(0, 39, 5);
            Check.due("sheet(0, 2, 40)", x.sheet(0, 2, 40), 1);
            Check.due("all cells are 0", x.read(0, 2, 1, 13), 13);
            for (int i = 0; i < 13; i++) shown(x, i, 0, 0, 0);
            Check.due("its first ones, too", x.read(0, 2, 0, 1), 1);
            shown(x, 13, 0, 0, 0);
            fill(x, 0, 2, 3, 1, 1, 1);
            Check.due("a shorter one", x.sheet(0, 0, 2), 1);
            Check.due("another lane", x.sheet(0, 1, 3), 1);
            Check.due("has cells 0, too", x.read(0, 1, 0, 1), 1);
            shown(x, 14, 0, 0, 0);
        });
        Check.sentence("Promise 39: BAD: also n above 40", () -> {
            FirstWords x = Check.told(WORLD);
            x.sheet(0, 1, 7);
            int[][] wrong = {{-1, 0, 1}, {4, 0, 1}, {0, -1, 1}, {0, 3, 1}, {0, 0, 41}, {0, 1, 42}, {0, 2, 1000}};
            for (int[] w : wrong) Check.due("sheet(" + w[0] + ", " + w[1] + ", " + w[2] + ")", x.sheet(w[0], w[1], w[2]), -1);
            for (int n : Check.FAR) Check.due("sheet(" + n + ", 0, 1)", x.sheet(n, 0, 1), -1);
            for (int n : Check.FAR) Check.due("sheet(0, " + n + ", 1)", x.sheet(0, n, 1), -1);
            for (int n : Check.FAR) if (n > 0) Check.due("sheet(0, 0, " + n + ")", x.sheet(0, 0, n), -1);
            Check.due("it changes nothing", x.count(8), 7);
            Check.due("nor the lane", x.read(0, 1, 0, 1), 1);
        });
        Check.sentence("Promise 39: -14 (SIZE): n below 0", () -> {
            FirstWords x = Check.told(WORLD);
            Check.due("sheet(0, 0, -1)", x.sheet(0, 0, -1), -14);
            Check.due("nothing still", x.count(8), -4);
            fill(x, 0, 1, 3, 1, 1, 1);
            for (int lane = 0; lane < 3; lane++) Check.due("sheet(0, " + lane + ", -1)", x.sheet(0, lane, -1), -14);
            for (int n : Check.FAR) if (n < 0) Check.due("sheet(0, 0, " + n + ")", x.sheet(0, 0, n), -14);
            Check.due("it changes nothing", x.count(8), 3);
            Check.due("read(0, 1, 0, 1)", x.read(0, 1, 0, 1), 1);
            shown(x, 0, 1, 1, 1);
        });
        Check.sentence("BAD .. SIZE, the first that fits", () -> {
            FirstWords x = Check.told(WORLD);
            Check.due("sheet(4, 0, -1)", x.sheet(4, 0, -1), -1);
            Check.due("sheet(-1, 0, -1)", x.sheet(-1, 0, -1), -1);
            Check.due("sheet(0, 3, -1)", x.sheet(0, 3, -1), -1);
            Check.due("sheet(0, -1, -1)", x.sheet(0, -1, -1), -1);
        });
    }

    private static void lay() {
        Check.sentence("Promise 40: CELL i of a SHEET becomes v (its lowest bits): 1", () -> {
            FirstWords x = Check.told(WORLD);
            int[] far = {0x12345601, 0x56780001, 1};
            for (int lane = 0; lane < 3; lane++) {
                x.sheet(lane, lane, 6);
                for (int i = 3; i < 6; i++) Check.due("lay(" + lane + ", " + i + ", " + far[lane] + ")", x.lay(lane, i, far[lane]), 1);
                Check.due("read", x.read(lane, lane, 0, 2), 2);
                shown(x, 2 * lane, 0, 0, 0);
                shown(x, 2 * lane + 1, 1, 1, 1);
            }
            x.lay(0, 3, 0);
            x.lay(0, 3, -255);
            Check.due("the latest counts", x.read(0, 0, 3, 1), 1);
            shown(x, 6, 1, 1, 1);
        });
        Check.sentence("Promise 40: BAD: k", () -> {
            FirstWords x = Check.told(WORLD);
            Check.due("lay(4, 0, 0)", x.lay(4, 0, 0), -1);
            Check.due("lay(-1, 0, 0)", x.lay(-1, 0, 0), -1);
            for (int n : Check.FAR) Check.due("lay(" + n + ", 0, 0)", x.lay(n, 0, 0), -1);
            Check.due("lay(4, -1, 0)", x.lay(4, -1, 0), -1);
        });
        Check.sentence("Promise 40: -10 less the FAULT: NULL", () -> {
            FirstWords x = Check.told(WORLD);
            for (int k = 0; k < 4; k++) Check.due("lay(" + k + ", 0, 0)", x.lay(k, 0, 0), -11);
            Check.due("lay(0, -1, 0)", x.lay(0, -1, 0), -11);
            Check.due("lay(0, 40, 0)", x.lay(0, 40, 0), -11);
        });
        Check.sentence("Promise 40: .. INDEX", () -> {
            FirstWords x = Check.told(WORLD);
            x.sheet(0, 0, 40);
            x.sheet(0, 0, 6);
            Check.due("lay(0, 0, 1)", x.lay(0, 0, 1), 1);
            Check.due("lay(0, 5, 1)", x.lay(0, 5, 1), 1);
            Check.due("lay(0, 6, 1)", x.lay(0, 6, 1), -12);
            Check.due("lay(0, 39, 1)", x.lay(0, 39, 1), -12);
            Check.due("lay(0, -1, 1)", x.lay(0, -1, 1), -12);
            for (int n : Check.FAR) Check.due("lay(0, " + n + ", 1)", x.lay(0, n, 1), -12);
            x.sheet(1, 2, 0);
            Check.due("lay(1, 0, 1) of no cells", x.lay(1, 0, 1), -12);
            Check.due("torn() is of read() alone", x.torn(), 0);
        });
    }

    // ---- showings read

    private static void read() {
        Check.sentence("Promise 41: n (0 to 13) SHOWINGS", () -> {
            FirstWords x = Check.told(WORLD);
            x.sheet(0, 0, 40);
            Check.due("read(0, 0, 0, 0)", x.read(0, 0, 0, 0), 0);
            Check.due("read(0, 0, 0, 1)", x.read(0, 0, 0, 1), 1);
            Check.due("read(0, 0, 0, 13)", x.read(0, 0, 0, 13), 13);
            Check.due("count(4)", x.count(4), 14);
            Check.due("read(0, 0, 0, 14)", x.read(0, 0, 0, 14), -1);
            Check.due("read(0, 0, 0, -1)", x.read(0, 0, 0, -1), -1);
            Check.due("count(4)", x.count(4), 14);
        });
        Check.sentence("Promise 41: (SOUND, THING, 1 or 0) .. three CELLS each from CELL f on: how many came", () -> {
            FirstWords x = Check.told(WORLD);
            fill(x, 0, 2, 40, 9, 1, 2, 0, 0, 1, 1, 1, 0, 1);
            Check.due("read(0, 2, 1, 3)", x.read(0, 2, 1, 3), 3);
            shown(x, 0, 1, 2, 0);
            shown(x, 1, 0, 1, 1);
            shown(x, 2, 1, 0, 1);
            Check.due("the last three cells", x.read(0, 2, 37, 1), 1);
            shown(x, 3, 0, 0, 0);
            Check.due("the last 39", x.read(0, 2, 1, 13), 13);
            Check.due("fled(2)", x.fled(2), 0);
            Check.due("undo(): they came one by one", x.undo(), 16);
        });
        Check.sentence("Promise 41: they are SHOWINGS as others", () -> {
            FirstWords x = Check.told(WORLD);
            fill(x, 0, 0, 9, 0, 0, 1, 0, 1, 1, 0, 2, 1);
            x.read(0, 0, 0, 3);
            Check.due("thinks(0, 0)", x.thinks(0, 0), -4);
            Check.due("thinks(1, 0)", x.thinks(1, 0), 0);
            Check.due("against(1, 0)", x.against(1, 0), 1);
            Check.due("fled(2)", x.fled(2), 2);
        });
    }

    private static void readOfTheTorn() {
        Check.sentence("Promise 41: What the machine refuses: those that were whole ahead come (INDEX)", () -> {
            for (int n = 0; n <= 10; n++) {
                FirstWords x = Check.told(WORLD);
                x.sheet(0, 0, n);
                Check.due("of " + n + " cells: read(0, 0, 0, 3)", x.read(0, 0, 0, 3), Math.min(3, n / 3));
                Check.due("of " + n + " cells: torn()", x.torn(), n < 9 ? 2 : 0);
                Check.due("of " + n + " cells: count(4)", x.count(4), Math.min(3, n / 3));
            }
            FirstWords y = Check.told(WORLD);
            y.sheet(0, 2, 40);
            y.sheet(0, 2, 7);
            int[] from = {4, 5, 6, 7, 8, 39, 40, 41, -1, -2, -3};
            for (int f : from) {
                Check.due("read(0, 2, " + f + ", 2)", y.read(0, 2, f, 2), f == 4 ? 1 : 0);
                Check.due("torn()", y.torn(), 2);
            }
            Check.due("count(4)", y.count(4), 1);
        });
        Check.sentence("Promise 41: .. from CELL f on, wherever that is", () -> {
            FirstWords x = Check.told(WORLD);
            x.sheet(0, 0, 40);
            for (int f : Check.FAR) {
                for (int n : new int[] {1, 2, 13}) {
                    x.read(0, 0, 0, 0);
                    Check.due("read(0, 0, " + f + ", " + n + ")", x.read(0, 0, f, n), 0);
                    Check.due("torn()", x.torn(), 2);
                }
            }
            Check.due("count(4)", x.count(4), 0);
        });
        Check.sentence("Promise 41: What the machine refuses (CAST)", () -> {
            FirstWords x = Check.told(WORLD);
            for (int lane = 0; lane < 3; lane++) x.sheet(lane, lane, 40);
            for (int k = 0; k < 3; k++) {
                for (int lane = 0; lane < 3; lane++) {
                    Check.due("read(" + k + ", " + lane + ", 0, 1)", x.read(k, lane, 0, 1), k == lane ? 1 : 0);
                    Check.due("torn()", x.torn(), k == lane ? 0 : 3);
                }
            }
            x.sheet(3, 1, 0);
            x.read(3, 0, 0, 1);
            Check.due("of no cells, too", x.torn(), 3);
        });
        Check.sentence("Promise 41: What the machine refuses (NULL)", () -> {
            FirstWords x = Check.told(WORLD);
            for (int lane = 0; lane < 3; lane++) {
                x.read(3, lane, 0, 0);
                Check.due("read(3, " + lane + ", 0, 13)", x.read(3, lane, 0, 13), 0);
                Check.due("torn()", x.torn(), 1);
            }
        });
        Check.sentence("Promise 41: of n 0: 0, no FAULT, whatever the SHEET is", () -> {
            FirstWords x = Check.told(WORLD);
            x.sheet(0, 0, 3);
            x.sheet(1, 0, 0);
            int[][] of = {{2, 0, 0}, {2, 1, -1}, {0, 0, 0}, {0, 1, 0}, {0, 2, 3}, {0, 0, 3}, {0, 0, 4}, {0, 0, -1}, {1, 0, 0}, {1, 2, 7},
                {0, 0, Integer.MAX_VALUE}, {0, 0, Integer.MIN_VALUE}};
            for (int[] o : of) {
                x.read(3, 0, 0, 1);
                Check.due("read(" + o[0] + ", " + o[1] + ", " + o[2] + ", 0)", x.read(o[0], o[1], o[2], 0), 0);
                Check.due("torn()", x.torn(), 0);
            }
            x.lay(0, 0, 9);
            Check.due("no showing is looked at", x.read(0, 0, 0, 0), 0);
            for (int i = 0; i < 24; i++) x.show(0, 0, true);
            Check.due("nor whether there is room", x.read(0, 0, 0, 0), 0);
            Check.due("count(4)", x.count(4), 24);
        });
    }

    private static void readOfTheRefused() {
        Check.sentence("Promise 41: BAD: k, lane, n", () -> {
            FirstWords x = Check.told(WORLD);
            x.sheet(0, 0, 40);
            x.read(1, 0, 0, 1);
            int[][] wrong = {{-1, 0, 1}, {4, 0, 1}, {0, -1, 1}, {0, 3, 1}, {0, 0, -1}, {0, 0, 14}, {4, 0, 0}, {0, 3, 0}, {1, 0, 14}, {1, 3, 1}};
            for (int[] w : wrong) Check.due("read(" + w[0] + ", " + w[1] + ", 0, " + w[2] + ")", x.read(w[0], w[1], 0, w[2]), -1);
            for (int n : Check.FAR) Check.due("read(" + n + ", 0, 0, 1)", x.read(n, 0, 0, 1), -1);
            for (int n : Check.FAR) Check.due("read(0, " + n + ", 0, 1)", x.read(0, n, 0, 1), -1);
            for (int n : Check.FAR) Check.due("read(0, 0, 0, " + n + ")", x.read(0, 0, 0, n), -1);
            Check.due("none came", x.count(4), 0);
            Check.due("torn() stays", x.torn(), 1);
        });
        Check.sentence("Promise 41: -20 less i (from 0 on): SHOWING i, whole, is not as told", () -> {
            int[][] wrong = {{2, 0, 0}, {-1, 0, 0}, {0, 3, 0}, {0, -1, 0}, {0, 0, 2}, {0, 0, -1}, {127, 0, 0}, {0, 127, 0}, {0, 0, 127},
                {-128, 0, 0}, {0, -128, 0}, {0, 0, -128}};
            for (int[] w : wrong) {
                for (int i = 0; i < 13; i++) {
                    FirstWords x = Check.told(WORLD);
                    x.sheet(0, 0, 40);
                    for (int j = 0; j < 3; j++) x.lay(0, 3 * i + j, w[j]);
                    Check.due("SHOWING " + i, x.read(0, 0, 0, 13), -20 - i);
                }
            }
            FirstWords x = Check.told(WORLD);
            fill(x, 0, 0, 9, 1, 2, 1, 2, 0, 0, 0, 3, 0);
            Check.due("the first of two", x.read(0, 0, 0, 3), -21);
            Check.due("from 0 on, wherever f is", x.read(0, 0, 3, 2), -20);
            Check.due("ahead of it", x.read(0, 0, 0, 1), 1);
            FirstWords y = new FirstWords();
            y.sheet(0, 0, 3);
            Check.due("nothing is told", y.read(0, 0, 0, 1), -20);
        });
        Check.sentence("Promise 41: .. then none came", () -> {
            FirstWords x = Check.told(WORLD);
            fill(x, 0, 0, 6, 0, 0, 1, 0, 0, 2);
            Check.due("the second is wrong", x.read(0, 0, 0, 2), -21);
            Check.due("count(4)", x.count(4), 0);
            Check.due("thinks(0, 0)", x.thinks(0, 0), -4);
            Check.due("the second, and the third is torn", x.read(0, 0, 0, 3), -21);
            Check.due("count(4)", x.count(4), 0);
        });
        Check.sentence("Promise 41: SHOWING i, whole (one that is not is not looked at)", () -> {
            FirstWords x = Check.told(WORLD);
            fill(x, 0, 0, 5, 0, 0, 1, 9, 9);
            Check.due("two cells of the second", x.read(0, 0, 0, 2), 1);
            Check.due("torn()", x.torn(), 2);
            fill(x, 0, 0, 4, 0, 0, 1, 9);
            Check.due("one cell of the second", x.read(0, 0, 0, 2), 1);
            fill(x, 0, 0, 3, 9, 9, 9);
            Check.due("of another lane", x.read(0, 1, 0, 1), 0);
            Check.due("torn()", x.torn(), 3);
            Check.due("from ahead of the first cell", x.read(0, 0, -1, 1), 0);
            Check.due("torn()", x.torn(), 2);
        });
        Check.sentence("Promise 41: FULL: likewise", () -> {
            FirstWords x = Check.told(WORLD);
            x.sheet(0, 0, 40);
            for (int i = 0; i < 12; i++) x.show(0, 0, true);
            Check.due("thirteen onto 12", x.read(0, 0, 0, 13), -3);
            Check.due("none came", x.count(4), 12);
            Check.due("twelve onto 12", x.read(0, 0, 0, 12), 12);
            Check.due("count(4)", x.count(4), 24);
            Check.due("one onto 24", x.read(0, 0, 0, 1), -3);
            Check.due("count(4)", x.count(4), 24);
            x.undo();
            Check.due("two onto 23", x.read(0, 0, 0, 2), -3);
            Check.due("one onto 23", x.read(0, 0, 0, 1), 1);
        });
        Check.sentence("Promise 41: the first met", () -> {
            FirstWords x = Check.told(WORLD);
            for (int i = 0; i < 22; i++) x.show(0, 0, true);
            fill(x, 0, 0, 13);
            x.lay(0, 9, 9);
            Check.due("the third is too many ahead of the fourth that is wrong", x.read(0, 0, 0, 4), -3);
            Check.due("the second is wrong ahead of the third that is too many", x.read(0, 0, 6, 2), -21);
            x.lay(0, 9, 0);
            Check.due("the third is too many ahead of the fifth that is torn", x.read(0, 0, 0, 5), -3);
            Check.due("two are whole, the third is torn", x.read(0, 0, 7, 3), 2);
            Check.due("torn()", x.torn(), 2);
            Check.due("nothing is met ahead of NULL", x.read(1, 0, 0, 1), 0);
            Check.due("nor ahead of CAST", x.read(0, 1, 0, 1), 0);
            Check.due("nor ahead of INDEX", x.read(0, 0, 11, 1), 0);
            Check.due("count(4)", x.count(4), 24);
        });
    }

    private static void torn() {
        Check.sentence("Promise 42: The FAULT of the latest read() that answered 0 or more; 0", () -> {
            FirstWords x = Check.told(WORLD);
            Check.due("of none", x.torn(), 0);
            x.sheet(0, 0, 3);
            int[][] reads = {{1, 0, 0, 1}, {0, 0, 0, 1}, {0, 0, 1, 1}, {0, 1, 0, 1}, {0, 0, 0, 2}, {0, 0, 0, 0}, {0, 1, 0, 1}, {0, 0, 0, 1}};
            int[] faults = {1, 0, 2, 3, 2, 0, 3, 0};
            for (int i = 0; i < 8; i++) {
                x.read(reads[i][0], reads[i][1], reads[i][2], reads[i][3]);
                Check.due("behind read " + i, x.torn(), faults[i]);
            }
        });
        Check.sentence("Promise 42: (one that is refused leaves it)", () -> {
            FirstWords x = Check.told(WORLD);
            fill(x, 0, 0, 6, 0, 0, 0, 9);
            x.read(0, 1, 0, 1);
            Check.due("torn()", x.torn(), 3);
            Check.due("BAD", x.read(4, 0, 0, 1), -1);
            Check.due("torn()", x.torn(), 3);
            Check.due("BAD of n", x.read(0, 0, 0, 14), -1);
            Check.due("torn()", x.torn(), 3);
            Check.due("not as told", x.read(0, 0, 0, 2), -21);
            Check.due("torn()", x.torn(), 3);
            Check.due("not as told, and torn behind it", x.read(0, 0, 3, 2), -20);
            Check.due("torn()", x.torn(), 3);
            for (int i = 0; i < 24; i++) x.show(0, 0, true);
            Check.due("FULL", x.read(0, 0, 0, 1), -3);
            Check.due("torn()", x.torn(), 3);
            x.lay(0, 9, 0);
            x.sheet(0, 0, -1);
            x.clear();
            Check.due("nor is it of other calls", x.torn(), 3);
        });
    }

    private static void count() {
        Check.sentence("Promise 43: 0 THINGS, 1 MEANINGS, 2 SOUNDS, 3 KINDS, 4 SHOWINGS, 5 of THEIR sound, 6 IMAGES (none, and all)", () -> {
            FirstWords x = new FirstWords();
            for (int what = 0; what < 7; what++) Check.due("count(" + what + ") at first", x.count(what), 0);
            Check.tell(x, Check.ALL_ROOM);
            for (int i = 0; i < 25; i++) x.show(0, 0, true);
            for (int i = 0; i < 13; i++) x.theirs(0, true);
            x.keep(1);
            Check.due("one image", x.count(6), 1);
            x.keep(0);
            x.keep(0);
            int[] due = {8, 12, 4, 6, 24, 12, 2};
            for (int what = 0; what < 7; what++) Check.due("count(" + what + ")", x.count(what), due[what]);
        });
        Check.sentence("Promise 43: 7 bytes on THE TAPE", () -> {
            FirstWords x = new FirstWords();
            Check.due("count(7)", x.count(7), 0);
            for (int i = 1; i <= 51; i++) {
                x.feed(0);
                Check.due("count(7)", x.count(7), Math.min(400, 8 * i));
            }
            x.end(17);
            Check.due("count(7)", x.count(7), 17);
            x.text();
            Check.due("count(7)", x.count(7), 0);
        });
        Check.sentence("Promise 43: 8 CELLS of SHEET 0 (NONE: nothing)", () -> {
            FirstWords x = new FirstWords();
            x.sheet(1, 0, 5);
            Check.due("nothing", x.count(8), -4);
            int[] cells = {0, 1, 40, 0};
            for (int n : cells) {
                x.sheet(0, 0, n);
                Check.due("count(8) of " + n, x.count(8), n);
            }
        });
        Check.sentence("Promise 43: BAD", () -> {
            FirstWords x = Check.told(Check.ALL_ROOM);
            Check.due("count(9)", x.count(9), -1);
            Check.due("count(-1)", x.count(-1), -1);
            for (int n : Check.FAR) Check.due("count(" + n + ")", x.count(n), -1);
        });
    }
}
