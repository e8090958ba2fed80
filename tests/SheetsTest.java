/** Promises 37 to 43: images, sheets, showings read from them, how many there are. */
public final class SheetsTest {
    private static final String WORLD = "thing a;thing b;thing ab;means a;means b;word 0;word 1;plain;proud;last fears 2;";

    public static void main(String[] args) {
        keepAndBack();
        imagesAreTheirOwn();
        sheets();
        lay();
        lanes();
        read();
        readOfTornSheets();
        readOfNone();
        readOfWrongShowings();
        readOfTheFull();
        readOfWrongNumbers();
        readIsSeen();
        count();
        Check.finish();
    }

    private static void keepAndBack() {
        FirstWords x = Check.told(WORLD);
        Check.due("back(0)", x.back(0), -2);
        Check.due("back(2)", x.back(2), -1);
        Check.due("back(-1)", x.back(-1), -1);
        Check.due("keep(2)", x.keep(2), -1);
        Check.due("keep(-1)", x.keep(-1), -1);
        Check.due("count(6)", x.count(6), 0);
        x.show(0, 0, true);
        x.heard(0, 1, 0);
        x.theirs(1, true);
        Check.due("left(0)", x.left(0), 7);
        Check.due("keep(0)", x.keep(0), 0);
        x.show(0, 2, false);
        x.show(1, 2, true);
        x.heard(1, 2, 1);
        x.theirs(0, false);
        Check.due("left(0)", x.left(0), 3);
        Check.due("keep(1)", x.keep(1), 0);
        Check.due("count(6)", x.count(6), 2);
        Check.due("back(0)", x.back(0), 1);
        Check.due("count(4)", x.count(4), 1);
        Check.due("count(5)", x.count(5), 1);
        Check.due("left(0)", x.left(0), 7);
        Check.due("fled(2)", x.fled(2), -4);
        Check.due("thinks(0, 0)", x.thinks(0, 0), 0);
        Check.due("thinks(0, 1)", x.thinks(0, 1), -4);
        Check.due("meant(2)", x.meant(2), 2);
        Check.due("back(1)", x.back(1), 3);
        Check.due("fled(2)", x.fled(2), 1);
        Check.due("left(0)", x.left(0), 3);
        Check.due("count(5)", x.count(5), 2);
        Check.due("shown(1, 1)", x.shown(1, 1), 2);
        Check.due("shown(1, 2)", x.shown(1, 2), 0);
        Check.due("keep(0)", x.keep(0), 1);
        Check.due("back(0)", x.back(0), 3);
        Check.due("count(6)", x.count(6), 2);
    }

    private static void imagesAreTheirOwn() {
        FirstWords x = Check.told(WORLD);
        x.show(0, 1, false);
        x.theirs(1, true);
        x.keep(0);
        x.undo();
        x.hush();
        x.show(1, 0, true);
        x.show(1, 0, true);
        x.theirs(0, false);
        Check.due("back(0)", x.back(0), 1);
        Check.due("shown(0, 0)", x.shown(0, 0), 0);
        Check.due("shown(0, 1)", x.shown(0, 1), 1);
        Check.due("shown(0, 2)", x.shown(0, 2), 0);
        Check.due("meant(2)", x.meant(2), 2);
        x.undo();
        x.show(1, 2, true);
        Check.due("back(0) once more", x.back(0), 1);
        Check.due("shown(0, 1)", x.shown(0, 1), 1);
        x.clear();
        Check.due("back(0) behind clear()", x.back(0), 1);
        Check.due("undo()", x.undo(), 0);
        Check.due("undo()", x.undo(), -4);
    }

    private static void sheets() {
        FirstWords x = Check.told(WORLD);
        int[][] wrong = {{-1, 0, 1}, {4, 0, 1}, {0, -1, 1}, {0, 3, 1}, {0, 0, 41}, {0, 0, Integer.MAX_VALUE}, {4, 0, -1}, {0, 3, -1}};
        for (int[] w : wrong) Check.due("sheet(" + w[0] + ", " + w[1] + ", " + w[2] + ")", x.sheet(w[0], w[1], w[2]), -1);
        Check.due("sheet(0, 0, -1)", x.sheet(0, 0, -1), -14);
        Check.due("count(8) of nothing", x.count(8), -4);
        Check.due("sheet(0, 0, 40)", x.sheet(0, 0, 40), 1);
        Check.due("count(8)", x.count(8), 40);
        Check.due("sheet(0, 2, MIN)", x.sheet(0, 2, Integer.MIN_VALUE), -14);
        Check.due("count(8) stays", x.count(8), 40);
        Check.due("lay(0, 39, 1)", x.lay(0, 39, 1), 1);
        Check.due("sheet(0, 1, 3)", x.sheet(0, 1, 3), 1);
        Check.due("count(8)", x.count(8), 3);
        Check.due("sheet(0, 1, 0)", x.sheet(0, 1, 0), 1);
        Check.due("count(8)", x.count(8), 0);
        Check.due("sheet(3, 2, 5)", x.sheet(3, 2, 5), 1);
        Check.due("count(8) is of sheet 0", x.count(8), 0);
    }

    private static void lay() {
        FirstWords x = Check.told(WORLD);
        Check.due("lay(0, 0, 1)", x.lay(0, 0, 1), -11);
        Check.due("lay(0, -1, 1) of nothing", x.lay(0, -1, 1), -11);
        x.sheet(0, 2, 6);
        Check.due("lay(-1, 0, 1)", x.lay(-1, 0, 1), -1);
        Check.due("lay(4, 0, 1)", x.lay(4, 0, 1), -1);
        Check.due("lay(0, -1, 1)", x.lay(0, -1, 1), -12);
        Check.due("lay(0, 6, 1)", x.lay(0, 6, 1), -12);
        Check.due("lay(0, MAX, 1)", x.lay(0, Integer.MAX_VALUE, 1), -12);
        Check.due("lay(0, MIN, 1)", x.lay(0, Integer.MIN_VALUE, 1), -12);
        Check.due("lay(0, 5, 1)", x.lay(0, 5, 1), 1);
        Check.due("lay(0, 3, 1)", x.lay(0, 3, 1), 1);
        Check.due("read(0, 2, 3, 1)", x.read(0, 2, 3, 1), 1);
        Check.due("shown(0, 0)", x.shown(0, 0), 1);
        Check.due("shown(0, 1)", x.shown(0, 1), 0);
        Check.due("shown(0, 2)", x.shown(0, 2), 1);
        x.sheet(0, 2, 6);
        Check.due("a new row is of 0", x.read(0, 2, 3, 1), 1);
        Check.due("shown(1, 0)", x.shown(1, 0), 0);
        Check.due("shown(1, 2)", x.shown(1, 2), 0);
        x.sheet(1, 0, 0);
        Check.due("lay(1, 0, 0)", x.lay(1, 0, 0), -12);
    }

    private static void lanes() {
        FirstWords x = Check.told(WORLD);
        int[][] values = {{256 + 1, 1, -20, -20}, {65536 + 1, 1, 1, -20}, {1 << 31, 1, 1, -20}, {128, -20, -20, -20}, {-256, 1, 1, -20},
            {-65536, 1, 1, -20}, {255, -20, -20, -20}, {65535, -20, -20, -20}, {-1, -20, -20, -20}, {1, 1, 1, 1}};
        for (int lane = 0; lane < 3; lane++) {
            for (int[] v : values) {
                x.sheet(lane, lane, 3);
                x.lay(lane, 0, v[0]);
                int due = v[0] == -256 && lane == 1 ? -20 : v[1 + lane];
                Check.due("lane " + lane + ", value " + v[0], x.read(lane, lane, 0, 1), due);
            }
            x.clear();
        }
    }

    private static void fill(FirstWords x, int k, int lane, int n, int... cells) {
        x.sheet(k, lane, n);
        for (int i = 0; i < cells.length; i++) x.lay(k, i, cells[i]);
    }

    private static void read() {
        FirstWords x = Check.told(WORLD);
        fill(x, 2, 1, 7, 9, 0, 1, 1, 1, 2, 0);
        Check.due("read(2, 1, 1, 2)", x.read(2, 1, 1, 2), 2);
        int[][] due = {{0, 1, 1}, {1, 2, 0}};
        for (int i = 0; i < 2; i++) {
            for (int what = 0; what < 3; what++) Check.due("shown(" + i + ", " + what + ")", x.shown(i, what), due[i][what]);
        }
        Check.due("torn()", x.torn(), 0);
        Check.due("count(4)", x.count(4), 2);
        Check.due("read(2, 1, 4, 1)", x.read(2, 1, 4, 1), 1);
        Check.due("count(4)", x.count(4), 3);
        x.sheet(0, 0, 40);
        Check.due("read(0, 0, 1, 13)", x.read(0, 0, 1, 13), 13);
        Check.due("count(4)", x.count(4), 16);
        Check.due("torn()", x.torn(), 0);
    }

    private static void readOfTornSheets() {
        FirstWords x = Check.told(WORLD);
        Check.due("nothing", x.read(1, 0, 0, 1), 0);
        Check.due("torn()", x.torn(), 1);
        Check.due("nothing, whatever the cell", x.read(1, 2, -5, 2), 0);
        Check.due("torn()", x.torn(), 1);
        fill(x, 0, 0, 8, 1, 2, 1);
        Check.due("another lane", x.read(0, 1, 0, 1), 0);
        Check.due("torn()", x.torn(), 3);
        Check.due("another lane, outside", x.read(0, 2, 99, 1), 0);
        Check.due("torn()", x.torn(), 3);
        Check.due("two whole ones", x.read(0, 0, 0, 3), 2);
        Check.due("torn()", x.torn(), 2);
        Check.due("count(4)", x.count(4), 2);
        int[] outside = {-1, -3, 6, 7, 8, 9, Integer.MAX_VALUE, Integer.MIN_VALUE, Integer.MAX_VALUE - 2};
        for (int f : outside) {
            Check.due("read(0, 0, " + f + ", 2)", x.read(0, 0, f, 2), 0);
            Check.due("torn()", x.torn(), 2);
        }
        Check.due("count(4)", x.count(4), 2);
        Check.due("read(0, 0, 5, 1)", x.read(0, 0, 5, 1), 1);
        Check.due("torn()", x.torn(), 0);
        x.sheet(3, 0, 0);
        Check.due("no cells", x.read(3, 0, 0, 1), 0);
        Check.due("torn()", x.torn(), 2);
    }

    private static void readOfNone() {
        FirstWords x = Check.told(WORLD);
        x.read(1, 0, 0, 1);
        Check.due("torn()", x.torn(), 1);
        Check.due("n 0 of nothing", x.read(1, 0, 0, 0), 0);
        Check.due("torn()", x.torn(), 0);
        x.sheet(0, 0, 3);
        x.read(0, 1, 0, 1);
        Check.due("n 0 of another lane", x.read(0, 1, -7, 0), 0);
        Check.due("torn()", x.torn(), 0);
        x.read(0, 0, 3, 1);
        Check.due("n 0 from outside", x.read(0, 0, Integer.MAX_VALUE, 0), 0);
        Check.due("torn()", x.torn(), 0);
    }

    private static void readOfWrongShowings() {
        FirstWords x = Check.told(WORLD);
        int[][] wrong = {{2, 0, 0}, {-1, 0, 0}, {0, 3, 0}, {0, -1, 0}, {0, 0, 2}, {0, 0, -1}};
        x.read(1, 0, 0, 1);
        for (int[] w : wrong) {
            fill(x, 0, 0, 10, 0, 0, 1, 0, 1, 0, w[0], w[1], w[2]);
            Check.due("the third is wrong", x.read(0, 0, 0, 3), -22);
            Check.due("the third, and the fourth is torn", x.read(0, 0, 0, 4), -22);
            Check.due("the second", x.read(0, 0, 3, 2), -21);
            Check.due("the first", x.read(0, 0, 6, 1), -20);
            Check.due("torn() stays", x.torn(), 1);
            Check.due("none came", x.count(4), 0);
        }
        fill(x, 0, 0, 5, 0, 0, 1, 9, 9);
        Check.due("one that is not whole is not looked at", x.read(0, 0, 0, 2), 1);
        Check.due("torn()", x.torn(), 2);
        fill(x, 0, 2, 39);
        x.lay(0, 38, 7);
        Check.due("the last of 13", x.read(0, 2, 0, 13), -32);
        FirstWords y = new FirstWords();
        y.sheet(0, 0, 3);
        Check.due("no sounds", y.read(0, 0, 0, 1), -20);
    }

    private static void readOfTheFull() {
        FirstWords x = Check.told(WORLD);
        for (int i = 0; i < 22; i++) x.show(0, 0, true);
        fill(x, 0, 0, 10);
        Check.due("three are too many", x.read(0, 0, 0, 3), -3);
        Check.due("none came", x.count(4), 22);
        Check.due("torn()", x.torn(), 0);
        x.lay(0, 6, 5);
        Check.due("the third is wrong, and too many", x.read(0, 0, 0, 3), -22);
        x.lay(0, 6, 0);
        Check.due("full is met ahead of what is torn", x.read(0, 0, 0, 4), -3);
        Check.due("full is met ahead of what is torn", x.read(0, 0, 1, 4), -3);
        Check.due("two come", x.read(0, 0, 4, 3), 2);
        Check.due("torn()", x.torn(), 2);
        Check.due("count(4)", x.count(4), 24);
        Check.due("one is too many", x.read(0, 0, 0, 1), -3);
        Check.due("torn() stays", x.torn(), 2);
        Check.due("none of nothing", x.read(1, 0, 0, 1), 0);
        Check.due("torn()", x.torn(), 1);
        Check.due("none is not too many", x.read(0, 0, 0, 0), 0);
    }

    private static void readOfWrongNumbers() {
        FirstWords x = Check.told(WORLD);
        x.sheet(0, 0, 40);
        x.read(1, 0, 0, 1);
        int[][] wrong = {{-1, 0, 0, 1}, {4, 0, 0, 1}, {0, -1, 0, 1}, {0, 3, 0, 1}, {0, 0, 0, -1}, {0, 0, 0, 14}, {4, 0, 0, 0}, {0, 3, 0, 0},
            {0, 0, 0, Integer.MAX_VALUE}, {0, 0, 0, Integer.MIN_VALUE}};
        for (int[] w : wrong) Check.due("read(" + w[0] + ", " + w[1] + ", " + w[2] + ", " + w[3] + ")", x.read(w[0], w[1], w[2], w[3]), -1);
        Check.due("torn() stays", x.torn(), 1);
        Check.due("count(4)", x.count(4), 0);
    }

    private static void readIsSeen() {
        FirstWords x = Check.told(WORLD);
        fill(x, 0, 0, 9, 0, 2, 1, 0, 0, 0, 0, 1, 0);
        Check.due("read(0, 0, 0, 3)", x.read(0, 0, 0, 3), 3);
        Check.due("thinks(0, 0)", x.thinks(0, 0), -4);
        Check.due("thinks(1, 0)", x.thinks(1, 0), 0);
        Check.due("against(1, 0)", x.against(1, 0), 1);
        Check.due("fled(2)", x.fled(2), 0);
        Check.due("undo()", x.undo(), 2);
        Check.due("thinks(0, 0)", x.thinks(0, 0), 1);
    }

    private static void count() {
        FirstWords x = Check.told(WORLD);
        x.show(0, 0, true);
        x.theirs(0, true);
        x.theirs(0, true);
        x.keep(1);
        x.feed(0);
        x.sheet(0, 0, 17);
        int[] due = {3, 2, 2, 3, 1, 2, 1, 8, 17, -1};
        for (int what = 0; what < due.length; what++) Check.due("count(" + what + ")", x.count(what), due[what]);
        Check.due("count(-1)", x.count(-1), -1);
        Check.due("count(MIN)", x.count(Integer.MIN_VALUE), -1);
    }
}
