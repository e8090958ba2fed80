/** Promises 1 to 9: a new object, the tape, its text, what is told by it. */
public final class TextTest {
    public static void main(String[] args) {
        aNewObject();
        feedAndEnd();
        bytesOfAFeed();
        whatATextTells();
        tokens();
        faultsOfTokens();
        faultsOfPlaces();
        faultsOfBounds();
        faultsOfRoom();
        theFirstFaultCounts();
        aRefusedTextChangesNothing();
        aTakenTextTakesAll();
        kindsByDefault();
        wrongNumbers();
        Check.finish();
    }

    private static void aNewObject() {
        FirstWords x = new FirstWords();
        for (int what = 0; what <= 7; what++) Check.due("new: count(" + what + ")", x.count(what), 0);
        Check.due("new: count(8)", x.count(8), -4);
        Check.due("new: fault()", x.fault(), 0);
        Check.due("new: torn()", x.torn(), 0);
        Check.due("new: thing(0)", x.thing(0), -1);
        Check.due("new: meaning(0, 0)", x.meaning(0, 0), -1);
        Check.due("new: word(0)", x.word(0), -1);
        Check.due("new: kind(0, 0)", x.kind(0, 0), -1);
        Check.due("new: fled(0)", x.fled(0), -1);
        Check.due("new: undo()", x.undo(), -4);
        Check.due("new: clear()", x.clear(), 0);
        Check.due("new: hush()", x.hush(), 0);
        Check.due("new: left(0)", x.left(0), 0);
        Check.due("new: left(2)", x.left(2), 0);
        Check.due("new: common(0)", x.common(0), 0);
        Check.due("new: common(1)", x.common(1), -1);
        Check.due("new: order(0, 0)", x.order(0, 0), 0);
        Check.due("new: order(0, 10)", x.order(0, 10), -1);
        Check.due("new: fears(0)", x.fears(0), 0);
        Check.due("new: fears(1)", x.fears(1), 0);
        Check.due("new: ask(0)", x.ask(0), -4);
        Check.due("new: draw(5)", x.draw(5), -4);
        Check.due("new: meant(0)", x.meant(0), 0);
        Check.due("new: meant(1)", x.meant(1), -4);
        Check.due("new: meant(3)", x.meant(3), -4);
        Check.due("new: back(0)", x.back(0), -2);
        Check.due("new: text()", x.text(), 0);
        for (int k = 0; k < 4; k++) Check.due("new: lay(" + k + ", 0, 1)", x.lay(k, 0, 1), -11);
        Check.due("BAD", FirstWords.BAD, -1);
        Check.due("STATE", FirstWords.STATE, -2);
        Check.due("FULL", FirstWords.FULL, -3);
        Check.due("NONE", FirstWords.NONE, -4);
    }

    private static void feedAndEnd() {
        FirstWords x = new FirstWords();
        for (int i = 1; i <= 50; i++) Check.due("feed " + i, x.feed(0), 8 * i);
        Check.due("feed 51", x.feed(0), -3);
        Check.due("count(7) of a full tape", x.count(7), 400);
        Check.due("end(401)", x.end(401), -1);
        Check.due("end(-1)", x.end(-1), -1);
        Check.due("end(400)", x.end(400), 400);
        Check.due("end(393)", x.end(393), 400);
        Check.due("feed on 393", x.feed(0), -3);
        Check.due("count(7) behind it", x.count(7), 393);
        Check.due("end(392)", x.end(392), 393);
        Check.due("feed on 392", x.feed(0), 400);
        Check.due("end(0)", x.end(0), 400);
        Check.due("end(1) of none", x.end(1), -1);
        Check.due("end(0) of none", x.end(0), 0);
    }

    private static void bytesOfAFeed() {
        FirstWords x = new FirstWords();
        x.feed(0x7468696e6720613bL); // thing a;
        Check.due("the highest byte first", x.text(), 1);
        Check.due("thing(0)", x.thing(0), 1);
        x.feed(0x7468696e67202dbbL); // the last byte is 187
        Check.due("a byte above 127", x.text(), -17);
        Check.due("its fault", x.fault(), 1);
        x.feed(-1L);
        Check.due("bytes 255", x.text(), -10);
        Check.due("their fault", x.fault(), 1);
        x.feed(0x7468696e6720613bL);
        x.end(5);
        x.feed(0x20613b2020202020L); // " a;     "
        Check.due("a tape cut and fed again", x.text(), 1);
    }

    private static void whatATextTells() {
        FirstWords x = new FirstWords();
        Check.due("lines", Check.tell(x, "thing ha;thing -;means c not gh;means - not -;means abc;word 2;word 0;"
            + "proud sees abc fears 1 unlike chance 0;careful chance 9 sees -;last;plain;"), 11);
        Check.due("fault()", x.fault(), 0);
        int[] counts = {2, 3, 2, 4, 0, 0, 0, 0, -4};
        for (int i = 0; i < counts.length; i++) Check.due("count(" + i + ")", x.count(i), counts[i]);
        Check.due("thing(0)", x.thing(0), 129);
        Check.due("thing(1)", x.thing(1), 0);
        int[][] meanings = {{4, 192, 3, 0, 12}, {0, 0, 0, 3, 15}, {7, 0, 3, 0, 13}};
        for (int m = 0; m < 3; m++) {
            for (int what = 0; what < 5; what++) Check.due("meaning(" + m + ", " + what + ")", x.meaning(m, what), meanings[m][what]);
        }
        Check.due("word(0)", x.word(0), 2);
        Check.due("word(1)", x.word(1), 0);
        int[][] kinds = {{3, 7, 1, 1, 0, 6}, {2, 0, -4, 0, 9, 2}, {1, 255, -4, 0, 1, 7}, {0, 255, -4, 0, 1, 7}};
        for (int k = 0; k < 4; k++) {
            for (int what = 0; what < 6; what++) Check.due("kind(" + k + ", " + what + ")", x.kind(k, what), kinds[k][what]);
        }
    }

    private static void tokens() {
        FirstWords x = new FirstWords();
        Check.due("blanks as many as wanted", Check.tell(x, "   thing    ab  ;thing-;   means a not-;word 0 ; word 00;  plain   "
            + "sees-fears 1unlike chance 07 ;  "), 6);
        Check.due("thing(0)", x.thing(0), 3);
        Check.due("thing(1)", x.thing(1), 0);
        Check.due("kind(0, 2)", x.kind(0, 2), 1);
        Check.due("kind(0, 3)", x.kind(0, 3), 1);
        Check.due("kind(0, 4)", x.kind(0, 4), 7);
        Check.due("a number right behind a name", Check.tell(x, "means a;word0;plain chance4;"), 3);
        Check.due("kind(0, 4)", x.kind(0, 4), 4);
        Check.due("only blanks", Check.tell(x, "     "), 0);
        Check.due("letters in any row", Check.tell(x, "thing hgfedcba;"), 1);
        Check.due("thing(0)", x.thing(0), 255);
    }

    private static void faultsOfTokens() {
        Check.refused(",", 0, 1);
        Check.refused("  A;", 2, 1);
        Check.refused("thing a\n;", 7, 1);
        Check.refused("thing a.", 7, 1);
        Check.refused("thing a;\t", 8, 1);
        Check.refused("means a;word 000;", 13, 1);
        Check.refused("plain chance 1234567890123;", 13, 1);
        Check.refused("100", 0, 1);
        Check.refused("thing a;\u0000", 8, 1);
    }

    private static void faultsOfPlaces() {
        Check.refused(";", 0, 2);
        Check.refused("thing", 5, 2);
        Check.refused("thing   ", 8, 2);
        Check.refused("thing a", 7, 2);
        Check.refused("thing a;thing a", 15, 2);
        Check.refused("thing 1;", 6, 2);
        Check.refused("thing a -;", 8, 2);
        Check.refused("thing a 5;", 8, 2);
        Check.refused("thing a means b;", 8, 2);
        Check.refused("thinga;", 0, 2);
        Check.refused("means a nor b;", 8, 2);
        Check.refused("means a not b not c;", 14, 2);
        Check.refused("means a not 1;", 12, 2);
        Check.refused("means ;", 6, 2);
        Check.refused("means a;word -;", 13, 2);
        Check.refused("means a;word a;", 13, 2);
        Check.refused("means a;word 0 0;", 15, 2);
        Check.refused("not a;", 0, 2);
        Check.refused("sees a;", 0, 2);
        Check.refused("plain sees 1;", 11, 2);
        Check.refused("thing a;plain fears a;", 20, 2);
        Check.refused("thing a;plain fears;", 19, 2);
        Check.refused("plain chance -;", 13, 2);
        Check.refused("plain unlike 1;", 13, 2);
        Check.refused("plain plain;", 6, 2);
        Check.refused("plain -;", 6, 2);
        Check.refused("plain sees a b;", 13, 2);
        Check.refused("plain sees a unlike", 19, 2);
        Check.refused("plainsees a;", 0, 2);
    }

    private static void faultsOfBounds() {
        Check.refused("thing abi;", 6, 3);
        Check.refused("thing aba;", 6, 3);
        Check.refused("thing z;", 6, 3);
        Check.refused("means not;", 6, 3);
        Check.refused("means ab not cb;", 13, 3);
        Check.refused("means a not bb;", 12, 3);
        Check.refused("word 0;", 5, 3);
        Check.refused("word 0;means a;", 5, 3);
        Check.refused("means a;word 01;", 13, 3);
        Check.refused("plain fears 0;thing a;", 12, 3);
        Check.refused("thing a;thing b;last fears 2;", 27, 3);
        Check.refused("plain chance 10;", 13, 3);
        Check.refused("plain chance 99;", 13, 3);
        Check.refused("plain sees unlike;", 11, 3);
        Check.refused("plain sees ai;", 11, 3);
        Check.refused("plain sees a sees b;", 13, 4);
        Check.refused("plain sees a sees;", 13, 4);
        Check.refused("plain chance 1 unlike chance 2;", 22, 4);
        Check.refused("thing a;plain fears 0 fears 0;", 22, 4);
    }

    private static void faultsOfRoom() {
        Check.refused("thing a;".repeat(8) + " thing a;", 65, 5);
        Check.refused("means a;".repeat(12) + "means i;", 96, 5);
        Check.refused("means a;" + "word 0;".repeat(4) + "word 9;", 36, 5);
        Check.refused("last;".repeat(6) + "careful,", 30, 5);
        FirstWords x = new FirstWords();
        Check.due("all the room", Check.tell(x, "thing a;".repeat(8) + "means a;".repeat(12) + "word 11;".repeat(4) + "last;".repeat(6)), 30);
        Check.due("count(0)", x.count(0), 8);
        Check.due("count(1)", x.count(1), 12);
        Check.due("count(2)", x.count(2), 4);
        Check.due("count(3)", x.count(3), 6);
    }

    private static void theFirstFaultCounts() {
        Check.refused("things ,", 0, 2);
        Check.refused("thing a ,x", 8, 1);
        Check.refused("thing i,", 6, 3);
        Check.refused("thing a b,", 8, 2);
        Check.refused("means a;word 5,", 13, 3);
        Check.refused("plain chance 10 chance,", 13, 3);
        Check.refused("plain unlike unlike,", 13, 4);
    }

    private static void aRefusedTextChangesNothing() {
        FirstWords x = Check.told("thing a;thing b;means a;means -;word 0;plain;last;");
        x.teach(0, 1);
        x.heard(0, 0, 0);
        x.theirs(0, true);
        x.keep(1);
        Check.due("a refused text", Check.tell(x, "thing abc;plain;word 0;"), -31);
        Check.due("fault()", x.fault(), 3);
        Check.due("count(7)", x.count(7), 0);
        int[] counts = {2, 2, 1, 2, 1, 1, 1};
        for (int i = 0; i < counts.length; i++) Check.due("count(" + i + ") stays", x.count(i), counts[i]);
        Check.due("thing(0) stays", x.thing(0), 1);
        Check.due("left(0) stays", x.left(0), 0);
        Check.due("thinks(0, 0) stays", x.thinks(0, 0), 0);
        Check.due("text() of the empty tape", x.text(), 0);
        Check.due("fault() then", x.fault(), 0);
        Check.due("count(0) then", x.count(0), 0);
    }

    private static void aTakenTextTakesAll() {
        FirstWords x = Check.told("thing a;thing b;means a;means -;word 0;plain;last fears 1 sees b unlike chance 5;");
        x.teach(0, 1);
        x.heard(0, 0, 0);
        x.theirs(0, true);
        x.keep(1);
        x.sheet(0, 0, 7);
        x.read(0, 1, 0, 1);
        Check.due("torn()", x.torn(), 3);
        Check.due("another text", Check.tell(x, "thing c;means c;means -;word 1;plain;last;proud;"), 7);
        int[] counts = {1, 2, 1, 3, 0, 0, 0, 0, 7};
        for (int i = 0; i < counts.length; i++) Check.due("count(" + i + ") anew", x.count(i), counts[i]);
        Check.due("thing(1)", x.thing(1), -1);
        Check.due("left(0)", x.left(0), 7);
        Check.due("fled(1)", x.fled(1), -4);
        Check.due("thinks(0, 0)", x.thinks(0, 0), -4);
        Check.due("back(1)", x.back(1), -2);
        Check.due("kind(1, 1)", x.kind(1, 1), 255);
        Check.due("kind(1, 2)", x.kind(1, 2), -4);
        Check.due("kind(1, 3)", x.kind(1, 3), 0);
        Check.due("kind(1, 4)", x.kind(1, 4), 1);
        Check.due("fits(0, 0)", x.fits(0, 0), 3);
    }

    private static void kindsByDefault() {
        FirstWords x = Check.told("plain;last;careful;proud;");
        for (int k = 0; k < 4; k++) {
            int[] due = {k, 255, -4, 0, 1, 0, -1};
            for (int what = 0; what < due.length; what++) Check.due("kind(" + k + ", " + what + ")", x.kind(k, what), due[what]);
        }
    }

    private static void wrongNumbers() {
        FirstWords x = Check.told("thing a;means a;word 0;plain;");
        int[] wrong = {-1, 1, 8, 12, 100, Integer.MAX_VALUE, Integer.MIN_VALUE};
        for (int n : wrong) {
            Check.due("thing(" + n + ")", x.thing(n), -1);
            Check.due("meaning(" + n + ", 0)", x.meaning(n, 0), -1);
            Check.due("word(" + n + ")", x.word(n), -1);
            Check.due("kind(" + n + ", 0)", x.kind(n, 0), -1);
        }
        Check.due("meaning(0, 5)", x.meaning(0, 5), -1);
        Check.due("meaning(0, -1)", x.meaning(0, -1), -1);
        Check.due("kind(0, 6)", x.kind(0, 6), -1);
        Check.due("kind(0, -1)", x.kind(0, -1), -1);
        Check.due("count(9)", x.count(9), -1);
        Check.due("count(-1)", x.count(-1), -1);
    }
}
