/** The sentences of 'What it is', 'Terms' 1 and promises 1 to 9 that name a boundary case, each with a test of its own. */
public final class BoundsOfTextTest {
    public static void main(String[] args) {
        use();
        room();
        tokens();
        lines();
        faults();
        whatATextTakes();
        theTape();
        theText();
        whatIsTold();
        Check.finish();
    }

    private static void use() {
        Check.sentence("What it is: An object is used for at most 512 calls after it has been made", () -> {
            FirstWords x = new FirstWords();
            x.feed(0x7468696e6720613bL);  // "thing a;"
            x.feed(0x6d65616e7320613bL);  // "means a;"
            x.feed(0x776f726420303b20L);  // "word 0; "
            x.feed(0x706c61696e3b2020L);  // "plain;  "
            Check.due("call 5: text()", x.text(), 4);
            for (int call = 6; call <= 511; call++) {
                if (call % 2 == 0) Check.due("call " + call + ": teach(0, 0)", x.teach(0, 0), 1);
                else Check.due("call " + call + ": undo()", x.undo(), 0);
            }
            Check.due("call 512: teach(0, 0)", x.teach(0, 0), 1);
        });
        Check.sentence("What it is: what later calls answer is free (and LANGUAGE 7: no call may ever throw)", () -> {
            FirstWords x = Check.told(Check.ALL_ROOM);
            for (int call = 0; call < 3000; call++) {
                x.feed(call);
                x.teach(call % 4, call % 8);
                x.theirs(call % 8, true);
                x.heard(call % 4, call % 8, 1);
                x.read(call % 4, call % 3, call, call % 14);
                x.keep(call % 2);
            }
            Check.holds("the object stands", x.count(0) == 8);
        });
        Check.sentence("BAD = -1, STATE = -2, FULL = -3, NONE = -4", () -> {
            Check.due("BAD", FirstWords.BAD, -1);
            Check.due("STATE", FirstWords.STATE, -2);
            Check.due("FULL", FirstWords.FULL, -3);
            Check.due("NONE", FirstWords.NONE, -4);
        });
    }

    // ---- Terms 1: marks, things, meanings, sounds, kinds

    private static void room() {
        Check.sentence("MARKS a to h (bits 0 to 7)", () -> {
            FirstWords x = Check.told("thing a;thing h;thing abcdefgh;");
            Check.due("thing(0)", x.thing(0), 1);
            Check.due("thing(1)", x.thing(1), 128);
            Check.due("thing(2)", x.thing(2), 255);
            Check.refusedAt("thing @i;", 3);
        });
        Check.sentence("THINGS (8), numbered as they come", () -> {
            FirstWords x = Check.told(Check.ALL_ROOM);
            for (int t = 0; t < 8; t++) Check.due("thing(" + t + ")", x.thing(t), 1 << t);
            Check.due("thing(8)", x.thing(8), -1);
            Check.due("count(0)", x.count(0), 8);
        });
        Check.sentence("MEANINGS (12), numbered as they come", () -> {
            FirstWords x = Check.told(Check.ALL_ROOM);
            int[] has = {1, 2, 4, 8, 16, 32, 64, 128, 0, 0, 3, 0};
            int[] not = {0, 0, 0, 0, 0, 0, 0, 0, 0, 1, 0, 255};
            for (int m = 0; m < 12; m++) Check.due("meaning(" + m + ", 0)", x.meaning(m, 0), has[m]);
            for (int m = 0; m < 12; m++) Check.due("meaning(" + m + ", 1)", x.meaning(m, 1), not[m]);
            Check.due("meaning(12, 0)", x.meaning(12, 0), -1);
            Check.due("count(1)", x.count(1), 12);
        });
        Check.sentence("SOUNDS (4), numbered as they come", () -> {
            FirstWords x = Check.told(Check.ALL_ROOM);
            int[] targets = {0, 7, 8, 9, -1};
            for (int s = 0; s < 5; s++) Check.due("word(" + s + ")", x.word(s), targets[s]);
            Check.due("count(2)", x.count(2), 4);
        });
        Check.sentence("KINDS (6), numbered as they come", () -> {
            FirstWords x = Check.told(Check.ALL_ROOM);
            int[] sorts = {0, 1, 2, 3, 0, 0, -1};
            for (int k = 0; k < 7; k++) Check.due("kind(" + k + ", 0)", x.kind(k, 0), sorts[k]);
            Check.due("kind(5, 2)", x.kind(5, 2), 7);
            Check.due("count(3)", x.count(3), 6);
        });
        Check.sentence("MARKS that a THING HAS and for such as it has NOT: THINGS that are so ARE it", () -> {
            FirstWords x = Check.told("thing ab;thing a;thing b;thing -;means -;means a;means ab;means abc;means - not a;means a not b;means - not abcdefgh;");
            int[] are = {15, 3, 1, 0, 12, 2, 8};
            for (int m = 0; m < are.length; m++) Check.due("meaning(" + m + ", 3)", x.meaning(m, 3), are[m]);
        });
        Check.sentence("PLAINER is what asks for fewer MARKS in all", () -> {
            FirstWords x = Check.told("thing abcdefgh;thing -;means abcdefgh;means abcd not efgh;means bcdefgh;word 0;plain;");
            x.theirs(0, true);
            Check.due("seven are fewer than eight", x.meant(1), 2);
            FirstWords z = Check.told("thing abcdefgh;means - not a;means abcdefgh;means b not a;");
            z.theirs(0, true);
            Check.due("eight are the most", z.meant(1), 1);
            FirstWords y = Check.told("thing a;means a not bcdefgh;means a not bc;means a not bcd;");
            y.theirs(0, true);
            Check.due("those that it has not count, too", y.meant(1), 1);
        });
        Check.sentence("PLAINER is .. then the lesser number", () -> {
            FirstWords x = Check.told("thing abcd;means abc;means a not e;means ab;means d not e;");
            Check.due("of 1, 2, 3 with two marks each", x.meant(1), 1);
        });
    }

    // ---- Terms 1: tokens

    private static void tokens() {
        Check.sentence("THE TAPE has 400 bytes", () -> {
            FirstWords x = new FirstWords();
            Check.due("text() of all 400", Check.tell(x, "thing a;" + " ".repeat(384) + "means a;"), 2);
            Check.due("meaning(0, 0), told by the last bytes", x.meaning(0, 0), 1);
            Check.refused(" ".repeat(399) + ",", 399, 1);
            Check.refused("thing a" + " ".repeat(393), 400, 2);
        });
        Check.sentence("places from 0", () -> {
            Check.refused(",", 0, 1);
            Check.refused(" ,", 1, 1);
        });
        Check.sentence("TOKENS, each as long as may be", () -> {
            Check.refusedAt("@thinga;", 2);
            Check.refusedAt("plain @unlikesees a;", 2);
            Check.refusedAt("means a @notb;", 2);
            Check.refusedAt("plain chance @007;", 1);
            Check.refusedAt("thing @" + "a".repeat(394), 3);
            Check.refusedAt("@" + "a".repeat(400), 2);
            Check.refusedAt("@" + "1".repeat(400), 1);
        });
        Check.sentence("blanks (32) ahead", () -> Check.taken(" ".repeat(392) + "thing a;", 1));
        Check.sentence("blanks (32) between", () -> Check.taken("thing" + " ".repeat(200) + "a" + " ".repeat(193) + ";", 1));
        Check.sentence("blanks (32) behind", () -> Check.taken("thing a;" + " ".repeat(392), 1));
        Check.sentence("blanks as many as wanted (blanks alone are no token)", () -> {
            Check.taken(" ", 0);
            Check.taken(" ".repeat(400), 0);
        });
        Check.sentence("blanks (32): no other byte is one", () -> {
            for (char c : new char[] {0, 9, 10, 11, 12, 13, 31, 33, 127, 128, 160, 255}) {
                Check.refused("thing" + c + "a;", 5, 1);
                Check.refused("thing a;" + c, 8, 1);
            }
        });
        Check.sentence("at least one between two NAMES", () -> {
            Check.taken("thing a;", 1);
            Check.refusedAt("@thinga;", 2);
            Check.taken("means a not b;", 1);
            Check.refusedAt("means @anot b;", 3);
            Check.taken("plain sees a unlike;", 1);
            Check.refusedAt("plain sees @aunlike;", 3);
        });
        Check.sentence("at least one between two NUMBERS", () -> {
            FirstWords x = Check.told("means a;means b;word 01;");
            Check.due("one NUMBER of two figures", x.word(0), 1);
            Check.refusedAt("means a;means b;word 0 @1;", 2);
        });
        Check.sentence("else none is needed", () -> {
            Check.taken("thing-;means-not-;word0;plain sees-fears0unlike chance9;", 4);
            Check.taken("means a not-;means-not a;last chance0sees a;", 3);
        });
        Check.sentence("NAMES (a .. z)", () -> {
            Check.refusedAt("@z;", 2);
            Check.refusedAt("thing @z;", 3);
            for (char c : new char[] {'A', 'Z', 'a' - 1, 'z' + 1, 'a' + 128, 'z' + 128}) {
                Check.refused(c + "hing a;", 0, 1);
                Check.refused("thing " + c + ";", 6, 1);
                Check.refused("thing a" + c + ";", 7, 1);
            }
        });
        Check.sentence("NUMBERS (1 or 2 figures)", () -> {
            Check.taken("plain chance 0;plain chance 9;plain chance 00;plain chance 09;", 4);
            Check.refusedAt("plain chance @000;", 1);
            for (char c : new char[] {'0' - 1, '9' + 1, '0' + 128, '9' + 128}) Check.refused("plain chance " + c + ";", 13, 1);
        });
        Check.sentence("one of the signs ; - (a point is none)", () -> {
            Check.refusedAt("thing a@.", 1);
            Check.refusedAt("@.", 1);
            for (char c : new char[] {',', '.', ':', '<', '_', ';' + 128, '-' + 128, '+', '*', '(', '{', '|'}) {
                Check.refused("thing a" + c, 7, 1);
                Check.refused("thing " + c + ";", 6, 1);
            }
        });
    }

    // ---- Terms 1: lines

    private static void lines() {
        Check.sentence("text: { line }: none, and as many as there is room for", () -> {
            Check.taken("", 0);
            Check.taken(Check.ALL_ROOM, 30);
        });
        Check.sentence("line: thing L ;", () -> {
            Check.refusedAt("thing@", 2);
            Check.refusedAt("thing @;", 2);
            Check.refusedAt("thing @7;", 2);
            Check.refusedAt("thing a@", 2);
            Check.refusedAt("thing a @b;", 2);
            Check.refusedAt("thing a @7;", 2);
            Check.refusedAt("thing a@-;", 2);
            Check.refusedAt("thing a;@;", 2);
        });
        Check.sentence("line: means L [ not L ] ;", () -> {
            Check.taken("means a;means a not b;", 2);
            Check.refusedAt("means@", 2);
            Check.refusedAt("means @;", 2);
            Check.refusedAt("means @7;", 2);
            Check.refusedAt("means @not;", 3);
            Check.refusedAt("means @not a;", 3);
            Check.refusedAt("means a@", 2);
            Check.refusedAt("means a @nor b;", 2);
            Check.refusedAt("means a @b;", 2);
            Check.refusedAt("means a @no b;", 2);
            Check.refusedAt("means a @nott b;", 2);
            Check.refusedAt("means a @bot b;", 2);
            Check.refusedAt("means a @nit b;", 2);
            Check.refusedAt("means a @7;", 2);
            Check.refusedAt("means a@-;", 2);
            Check.refusedAt("means a not@", 2);
            Check.refusedAt("means a not@;", 2);
            Check.refusedAt("means a not @7;", 2);
            Check.refusedAt("means a not b@", 2);
            Check.refusedAt("means a not b @not c;", 2);
            Check.refusedAt("means a not b @c;", 2);
        });
        Check.sentence("line: word N ;", () -> {
            Check.refusedAt("means a;word@", 2);
            Check.refusedAt("means a;word @;", 2);
            Check.refusedAt("means a;word @-;", 2);
            Check.refusedAt("means a;word @a;", 2);
            Check.refusedAt("means a;word 0@", 2);
            Check.refusedAt("means a;word 0 @0;", 2);
            Check.refusedAt("means a;word 0 @a;", 2);
        });
        Check.sentence("line: KIND { with } ;", () -> {
            Check.taken("plain;last;careful;proud;", 4);
            Check.taken("thing a;plain chance 1 unlike fears 0 sees a;", 2);
            Check.refusedAt("plain@", 2);
            Check.refusedAt("plain @7;", 2);
            Check.refusedAt("plain@-;", 2);
            Check.refusedAt("plain unlike@", 2);
            Check.refusedAt("plain unlike @7;", 2);
        });
        Check.sentence("KIND: plain | last | careful | proud", () -> {
            for (String name : new String[] {"plai", "plainn", "las", "lasts", "carefu", "careless", "prou", "prouder", "p", "kind", "with", "slain", "fast", "tareful",
                "croud", "lash", "proue", "carefum", "plait"}) {
                Check.refused(name + ";", 0, 2);
            }
        });
        Check.sentence("with: sees L", () -> {
            Check.refusedAt("plain sees@", 2);
            Check.refusedAt("plain sees@;", 2);
            Check.refusedAt("plain sees @7;", 2);
            Check.refusedAt("plain sees a@", 2);
            Check.refusedAt("plain sees a @b;", 2);
            Check.refusedAt("plain sees @unlike;", 3);
        });
        Check.sentence("with: fears N", () -> {
            Check.refusedAt("thing a;plain fears@", 2);
            Check.refusedAt("thing a;plain fears@;", 2);
            Check.refusedAt("thing a;plain fears @a;", 2);
            Check.refusedAt("thing a;plain fears @-;", 2);
            Check.refusedAt("thing a;plain fears 0@", 2);
            Check.refusedAt("thing a;plain fears 0 @0;", 2);
        });
        Check.sentence("with: unlike", () -> {
            Check.taken("plain unlike;", 1);
            Check.refusedAt("plain unlike @a;", 2);
            Check.refusedAt("plain unlike@-;", 2);
        });
        Check.sentence("with: chance N", () -> {
            Check.refusedAt("plain chance@", 2);
            Check.refusedAt("plain chance@;", 2);
            Check.refusedAt("plain chance @a;", 2);
            Check.refusedAt("plain chance @-;", 2);
            Check.refusedAt("plain chance 1@", 2);
            Check.refusedAt("plain chance 1 @1;", 2);
        });
        Check.sentence("L: letters a to h", () -> {
            FirstWords x = Check.told("thing abcdefgh;thing hgfedcba;");
            Check.due("thing(0)", x.thing(0), 255);
            Check.due("thing(1)", x.thing(1), 255);
            Check.refusedAt("thing @abcdefghi;", 3);
            Check.refusedAt("thing @ia;", 3);
            Check.refusedAt("plain sees @ai;", 3);
            Check.refusedAt("means @ai;", 3);
            Check.refusedAt("means a not @bi;", 3);
        });
        Check.sentence("L: .. each once", () -> {
            Check.refusedAt("thing @aa;", 3);
            Check.refusedAt("thing @abcdefgha;", 3);
            Check.refusedAt("thing @hh;", 3);
            Check.refusedAt("means a not @bb;", 3);
            Check.refusedAt("plain sees @aba;", 3);
        });
        Check.sentence("L: .. or - for none", () -> {
            FirstWords x = Check.told("thing -;means -;means - not -;means a not -;plain sees -;");
            Check.due("thing(0)", x.thing(0), 0);
            for (int m = 0; m < 2; m++) Check.due("meaning(" + m + ", 2)", x.meaning(m, 2), 0);
            Check.due("meaning(2, 1)", x.meaning(2, 1), 0);
            Check.due("kind(0, 1)", x.kind(0, 1), 0);
            Check.refusedAt("thing -@-;", 2);
            Check.refusedAt("thing -@a;", 2);
            Check.refusedAt("thing a@-;", 2);
        });
        Check.sentence("not: none of those that it HAS", () -> {
            Check.taken("means abcdefg not h;means - not abcdefgh;means abcdefgh not -;means h not a;", 4);
            Check.refusedAt("means abcdefgh not @h;", 3);
            Check.refusedAt("means a not @a;", 3);
            Check.refusedAt("means ab not @cdb;", 3);
        });
        Check.sentence("word: its TARGET (a MEANING told ahead)", () -> {
            Check.taken("means a;word 0;means b;word 1;", 4);
            Check.refusedAt("word @0;", 3);
            Check.refusedAt("word @0;means a;", 3);
            Check.refusedAt("means a;word @1;means b;", 3);
            Check.taken("means a;".repeat(12) + "word 11;", 13);
            Check.refusedAt("means a;".repeat(12) + "word @12;", 3);
            Check.refusedAt("means a;".repeat(12) + "word @99;", 3);
        });
        Check.sentence("sees: MARKS (all, if it is not told)", () -> {
            FirstWords x = Check.told("plain;plain sees abcdefgh;plain sees a;plain sees -;plain;");
            int[] sees = {255, 255, 1, 0, 255};
            for (int k = 0; k < 5; k++) Check.due("kind(" + k + ", 1)", x.kind(k, 1), sees[k]);
        });
        Check.sentence("fears: a THING told ahead", () -> {
            Check.taken("thing a;plain fears 0;thing b;plain fears 1;", 4);
            Check.refusedAt("plain fears @0;", 3);
            Check.refusedAt("plain fears @0;thing a;", 3);
            Check.refusedAt("thing a;plain fears @1;thing b;", 3);
            Check.taken("thing a;".repeat(8) + "plain fears 7;", 9);
            Check.refusedAt("thing a;".repeat(8) + "plain fears @8;", 3);
            Check.refusedAt("thing a;".repeat(8) + "plain fears @99;", 3);
        });
        Check.sentence("chance: 0 to 9 (1)", () -> {
            FirstWords x = Check.told("plain;plain chance 0;plain chance 9;plain chance 00;plain chance 09;plain;");
            int[] chances = {1, 0, 9, 0, 9, 1};
            for (int k = 0; k < 6; k++) Check.due("kind(" + k + ", 4)", x.kind(k, 4), chances[k]);
            Check.refusedAt("plain chance @10;", 3);
            Check.refusedAt("plain chance @99;", 3);
        });
    }

    // ---- Terms 1: faults

    private static void faults() {
        Check.sentence("1 no TOKEN", () -> {
            Check.refusedAt("@,", 1);
            Check.refusedAt("thing @,;", 1);
            Check.refusedAt("thing a @,", 1);
            Check.refusedAt("thing a; @,", 1);
            Check.refusedAt("plain unlike @,;", 1);
        });
        Check.sentence("1 .. a NUMBER that is too long (its first byte)", () -> {
            Check.refusedAt("means a;word @000;", 1);
            Check.refusedAt("plain chance @001", 1);
            Check.refusedAt("@123;", 1);
            Check.refusedAt("thing  @1234567890;", 1);
        });
        Check.sentence("2 a TOKEN that can not stand there", () -> {
            Check.refusedAt("@;", 2);
            Check.refusedAt("@-;", 2);
            Check.refusedAt("@0;", 2);
            Check.refusedAt("thing a;@;", 2);
            Check.refusedAt("thing a @0;", 2);
        });
        Check.sentence("2 .. a NAME that begins no line", () -> {
            for (String name : new String[] {"a", "not", "sees", "fears", "unlike", "chance", "things", "thin", "mean", "meanss", "wor", "words", "line",
                "uhing", "thinh", "thjng", "leans", "meant", "lord", "more", "want"}) {
                Check.refused(name + " a;", 0, 2);
                Check.refused("plain; " + name + ";", 7, 2);
            }
        });
        Check.sentence("2 .. a NAME that .. is no with", () -> {
            for (String name : new String[] {"a", "not", "plain", "thing", "see", "seess", "fear", "fearss", "unlik", "unlikes", "chanc", "chances",
                "fees", "seen", "tears", "feart", "inlike", "unlikf", "dhance", "chancy"}) {
                Check.refused("plain " + name + " a;", 6, 2);
                Check.refused("plain unlike " + name + " a;", 13, 2);
            }
        });
        Check.sentence("2 .. or the end: the length", () -> {
            String[] cut = {"thing", "thing a", "means", "means a", "means a not", "means a not b", "word", "plain", "plain sees", "plain sees a",
                "plain fears", "plain unlike", "plain chance", "plain chance 1", "thing a;plain fears 0", "means a;word 0", "thing a;thing"};
            for (String text : cut) {
                Check.refused(text, text.length(), 2);
                Check.refused(text + "   ", text.length() + 3, 2);
            }
        });
        Check.sentence("3 a NUMBER out of its bounds", () -> {
            Check.refusedAt("plain chance @10;", 3);
            Check.refusedAt("means a;word @1;", 3);
            Check.refusedAt("thing a;plain fears @1;", 3);
        });
        Check.sentence("3 .. a NAME that is no L", () -> {
            Check.refusedAt("thing @thing;", 3);
            Check.refusedAt("means @i;", 3);
            Check.refusedAt("means a not @not;", 3);
            Check.refusedAt("plain sees @sees;", 3);
        });
        Check.sentence("3 .. a not that has a letter of those that it HAS", () -> {
            Check.refusedAt("means h not @h;", 3);
            Check.refusedAt("means abcd not @efgha;", 3);
        });
        Check.sentence("4 a with for the second time (its NAME)", () -> {
            Check.refusedAt("plain sees a @sees b;", 4);
            Check.refusedAt("thing a;plain fears 0 @fears 0;", 4);
            Check.refusedAt("plain unlike @unlike;", 4);
            Check.refusedAt("plain chance 1 @chance 1;", 4);
            Check.refusedAt("thing a;plain chance 1 unlike sees - fears 0 @chance 1;", 4);
            Check.taken("plain unlike;plain unlike;plain sees a;plain sees a;", 4);
        });
        Check.sentence("5 the 9th THING (its NAME)", () -> {
            Check.taken("thing a;".repeat(8), 8);
            Check.refusedAt("thing a;".repeat(8) + "@thing a;", 5);
            Check.refusedAt("thing a;".repeat(8) + "@thing", 5);
        });
        Check.sentence("5 .. the 13th MEANING (its NAME)", () -> {
            Check.taken("means a;".repeat(12), 12);
            Check.refusedAt("means a;".repeat(12) + "@means a;", 5);
            Check.refusedAt("means a;".repeat(12) + "@means", 5);
        });
        Check.sentence("5 .. the 5th SOUND (its NAME)", () -> {
            Check.taken("means a;" + "word 0;".repeat(4), 5);
            Check.refusedAt("means a;" + "word 0;".repeat(4) + "@word 0;", 5);
            Check.refusedAt("means a;" + "word 0;".repeat(4) + "@word", 5);
        });
        Check.sentence("5 .. the 7th KIND (its NAME)", () -> {
            Check.taken("plain;last;proud;".repeat(2), 6);
            for (String name : new String[] {"plain", "last", "careful", "proud"}) {
                Check.refusedAt("plain;last;proud;".repeat(2) + "@" + name + ";", 5);
                Check.refusedAt("plain;last;proud;".repeat(2) + "@" + name, 5);
            }
        });
        Check.sentence("the first met as it is read (a TOKEN is read when the one before has been taken)", () -> {
            Check.refusedAt("@things ,", 2);
            Check.refusedAt("thing @,", 1);
            Check.refusedAt("thing @aa,", 3);
            Check.refusedAt("thing @0,", 2);
            Check.refusedAt("thing a @b,", 2);
            Check.refusedAt("means a @nor,", 2);
            Check.refusedAt("means a not @a,", 3);
            Check.refusedAt("means a;word @1,", 3);
            Check.refusedAt("means a;word @123", 1);
            Check.refusedAt("plain chance @10 000;", 3);
            Check.refusedAt("plain unlike @unlike,", 4);
            Check.refusedAt("plain @like,", 2);
            Check.refusedAt("thing a;".repeat(8) + "@thing,", 5);
            Check.refusedAt("means a;".repeat(12) + "@means 000", 5);
            Check.refusedAt("means a;" + "word 0;".repeat(4) + "@word,", 5);
            Check.refusedAt("plain;".repeat(6) + "@plain,", 5);
            Check.refusedAt("thing a;@;,", 2);
        });
    }

    private static FirstWords used() {
        FirstWords x = Check.told("thing a;thing b;means -;means a;word 1;word 0;last sees a fears 1 unlike chance 5;proud;");
        x.teach(0, 0);
        x.teach(1, 1);
        x.heard(0, 0, 1);
        x.theirs(1, true);
        x.keep(0);
        x.keep(1);
        x.sheet(0, 1, 5);
        x.lay(0, 3, 1);
        x.sheet(3, 2, 0);
        x.read(0, 2, 0, 1);
        Check.due("left(0) as it was", x.left(0), 2);
        return x;
    }

    /** What a text tells an object that was told others ahead, and one that was not. */
    private static void tellsAll(FirstWords x, FirstWords fresh) {
        for (int what = 0; what < 4; what++) Check.due("count(" + what + ")", x.count(what), fresh.count(what));
        Check.due("fears(0)", x.fears(0), fresh.fears(0));
        Check.due("left(2)", x.left(2), fresh.left(2));
        Check.due("show(0, 0, true)", x.show(0, 0, true), fresh.show(0, 0, true));
        for (int m = 0; m < 4; m++) for (int what = 0; what < 5; what += 3) Check.due("meaning(" + m + ", " + what + ")", x.meaning(m, what), fresh.meaning(m, what));
        for (int k = 0; k < 3; k++) {
            Check.due("kind(" + k + ", 3)", x.kind(k, 3), fresh.kind(k, 3));
            Check.due("kind(" + k + ", 5)", x.kind(k, 5), fresh.kind(k, 5));
            Check.due("fits(" + k + ", 0)", x.fits(k, 0), fresh.fits(k, 0));
            Check.due("thinks(" + k + ", 0)", x.thinks(k, 0), fresh.thinks(k, 0));
            Check.due("same(" + k + ", 0)", x.same(k, 0), fresh.same(k, 0));
            Check.due("never(" + k + ", 0)", x.never(k, 0), fresh.never(k, 0));
        }
    }

    private static void whatATextTakes() {
        Check.sentence("A text that is taken tells all, in place of what there was", () -> {
            FirstWords x = used();
            Check.due("text()", Check.tell(x, "thing h;means h;word 0;careful;"), 4);
            int[] counts = {1, 1, 1, 1};
            for (int i = 0; i < 4; i++) Check.due("count(" + i + ")", x.count(i), counts[i]);
            Check.due("thing(0)", x.thing(0), 128);
            Check.due("thing(1)", x.thing(1), -1);
            Check.due("meaning(0, 3)", x.meaning(0, 3), 1);
            Check.due("word(0)", x.word(0), 0);
            Check.due("word(1)", x.word(1), -1);
            Check.due("kind(0, 0)", x.kind(0, 0), 2);
        });
        Check.sentence("A text that is taken tells all, in place of what there was (of texts one behind another, refused ones between)", () -> {
            String big = "thing ab;thing a;thing b;means a;means b;means ab;means - not a;word 2;word 1;last sees a fears 1 unlike chance 5;proud;careful;";
            String[] texts = {big, "thing -;means -;means a;word 0;plain;plain fears 0;", "thing a;plain;means a;,", "", big, "thing h;means h;proud unlike chance 0;word",
                "thing b;thing a;means b;means - not b;word 1;careful;plain;", "thing b;means ab;means b;means a;word 0;plain sees b;plain;plain;"};
            FirstWords x = new FirstWords();
            int[] lines = {12, 6, -32, 0, 12, -52, 7, 8};
            for (int i = 0; i < texts.length; i++) {
                Check.due("text " + i, Check.tell(x, texts[i]), lines[i]);
                if (lines[i] >= 0) tellsAll(x, Check.told(texts[i]));
            }
        });
        Check.sentence("A text that is taken tells all (which MEANINGS just the same THINGS ARE, too)", () -> {
            FirstWords x = new FirstWords();
            for (int i = 0; i < 3; i++) {
                Check.tell(x, "thing ab;means a;means b;word 0;plain sees b;");
                x.show(0, 0, true);
                Check.due("the same things are both", x.same(0, 0), 1);
                Check.tell(x, "thing ab;thing b;means a;means b;word 0;plain sees b;");
                Check.tell(x, "thing ab;thing b;means a;means b;word 0;plain sees b;");
                x.show(0, 0, true);
                Check.due("now thing 1 is one of them alone", x.same(0, 0), 0);
                Check.due("never(0, 0)", x.never(0, 0), 1);
                Check.tell(x, "");
            }
        });
        Check.sentence("(what it does not tell is as at first)", () -> {
            FirstWords x = used();
            Check.due("text()", Check.tell(x, "plain;"), 1);
            int[] counts = {0, 0, 0, 1, 0, 0, 0, 0};
            for (int i = 0; i < 8; i++) Check.due("count(" + i + ")", x.count(i), counts[i]);
            int[] kind = {0, 255, -4, 0, 1, 0};
            for (int what = 0; what < 6; what++) Check.due("kind(0, " + what + ")", x.kind(0, what), kind[what]);
            FirstWords y = used();
            Check.due("an empty text", y.text(), 0);
            for (int i = 0; i < 8; i++) Check.due("then: count(" + i + ")", y.count(i), 0);
            Check.due("then: left(0)", y.left(0), 0);
        });
        Check.sentence("no SHOWINGS", () -> {
            FirstWords x = used();
            Check.tell(x, "thing a;thing b;means -;means a;word 1;word 0;last fears 1;proud;");
            Check.due("count(4)", x.count(4), 0);
            Check.due("undo()", x.undo(), -4);
            Check.due("shown(0, 0)", x.shown(0, 0), -1);
            Check.due("fled(0)", x.fled(0), -4);
            Check.due("thinks(1, 0)", x.thinks(1, 0), -4);
            Check.due("fits(1, 0)", x.fits(1, 0), 3);
            String text = "thing a;thing b;means -;means a;word 0;last;proud;";
            FirstWords y = Check.told(text);
            y.show(0, 0, true);
            y.show(0, 1, false);
            Check.due("thought latest", y.thinks(0, 0), 1);
            Check.due("against once", y.against(1, 0), 1);
            Check.tell(y, text);
            y.show(0, 0, true);
            Check.due("nothing was thought latest", y.thinks(0, 0), 0);
            Check.due("none was against", y.against(1, 0), 0);
        });
        Check.sentence("no answers", () -> {
            FirstWords x = used();
            Check.tell(x, "plain;plain;plain;");
            Check.due("left(0)", x.left(0), 7);
        });
        Check.sentence("nothing of THEIR sound", () -> {
            FirstWords x = used();
            Check.tell(x, "thing a;means a;means b;");
            Check.due("count(5)", x.count(5), 0);
            Check.due("hush()", x.hush(), 0);
            Check.due("meant(2)", x.meant(2), 3);
        });
        Check.sentence("IMAGES are gone", () -> {
            FirstWords x = used();
            Check.tell(x, "thing a;");
            Check.due("count(6)", x.count(6), 0);
            Check.due("back(0)", x.back(0), -2);
            Check.due("back(1)", x.back(1), -2);
            Check.due("keep(1)", x.keep(1), 0);
            Check.due("back(0) still", x.back(0), -2);
        });
        Check.sentence("SHEETS stay", () -> {
            FirstWords x = used();
            Check.tell(x, "thing a;means a;word 0;word 0;");
            Check.due("count(8)", x.count(8), 5);
            Check.due("torn()", x.torn(), 3);
            Check.due("read(0, 1, 2, 1)", x.read(0, 1, 2, 1), -20);
            Check.due("read(0, 1, 0, 1)", x.read(0, 1, 0, 1), 1);
            Check.due("lay(3, 0, 0)", x.lay(3, 0, 0), -12);
            Check.due("lay(2, 0, 0)", x.lay(2, 0, 0), -11);
        });
    }

    // ---- Promises 1 to 5

    private static void theTape() {
        Check.sentence("Promise 1: Nothing is told", () -> {
            FirstWords x = new FirstWords();
            for (int what = 0; what < 4; what++) Check.due("count(" + what + ")", x.count(what), 0);
            Check.due("thing(0)", x.thing(0), -1);
            Check.due("meaning(0, 0)", x.meaning(0, 0), -1);
            Check.due("word(0)", x.word(0), -1);
            Check.due("kind(0, 0)", x.kind(0, 0), -1);
            Check.due("thinks(0, 0)", x.thinks(0, 0), -1);
            Check.due("show(0, 0, true)", x.show(0, 0, true), -1);
            Check.due("theirs(0, true)", x.theirs(0, true), -1);
            Check.due("teaching(0, 0, 0)", x.teaching(0, 0, 0), -1);
            Check.due("common(1)", x.common(1), -1);
            Check.due("left(0)", x.left(0), 0);
            Check.due("count(7)", x.count(7), 0);
            Check.due("fault()", x.fault(), 0);
        });
        Check.sentence("Promise 1: no SHOWINGS", () -> {
            FirstWords x = new FirstWords();
            Check.due("count(4)", x.count(4), 0);
            Check.due("undo()", x.undo(), -4);
            Check.due("clear()", x.clear(), 0);
            Check.due("shown(0, 0)", x.shown(0, 0), -1);
        });
        Check.sentence("Promise 1: SHEETS of nothing", () -> {
            FirstWords x = new FirstWords();
            for (int k = 0; k < 4; k++) {
                Check.due("lay(" + k + ", 0, 0)", x.lay(k, 0, 0), -11);
                Check.due("read(" + k + ", 0, 0, 1)", x.read(k, 0, 0, 1), 0);
                Check.due("torn()", x.torn(), 1);
            }
            Check.due("count(8)", x.count(8), -4);
        });
        Check.sentence("Promise 2: Eight bytes come behind THE TAPE: how many it has", () -> {
            FirstWords x = new FirstWords();
            for (int i = 1; i <= 50; i++) Check.due("feed " + i, x.feed(Long.MIN_VALUE + i), 8 * i);
            x.end(3);
            Check.due("behind what was kept", x.feed(0), 11);
        });
        Check.sentence("Promise 2: the highest first", () -> {
            FirstWords x = new FirstWords();
            x.feed(0x7468696e6720683bL);  // "thing h;"
            Check.due("text()", x.text(), 1);
            Check.due("thing(0)", x.thing(0), 128);
            x.feed(0xff20202020202020L);
            Check.due("the byte with the sign", x.text(), -10);
            x.feed(0x202020202020ffffL);
            Check.due("bytes above 127 are none below", x.text(), -16);
            x.feed(0x7468696e67a0613bL);
            Check.due("a blank and 128 is no blank", x.text(), -15);
        });
        Check.sentence("Promise 2: FULL: more than 400", () -> {
            FirstWords x = new FirstWords();
            Check.feed(x, " ".repeat(392));
            Check.due("onto 392", x.feed(0x7468696e6720613bL), 400);
            Check.due("onto 400", x.feed(-1L), -3);
            x.end(393);
            Check.due("onto 393", x.feed(-1L), -3);
            Check.due("it has as many as before", x.count(7), 393);
            x.end(392);
            x.feed(0x7468696e6720613bL);
            Check.due("and reads as before", x.text(), 1);
        });
        Check.sentence("Promise 3: THE TAPE keeps its first n bytes: how many it had", () -> {
            FirstWords x = new FirstWords();
            Check.due("end(0) of none", x.end(0), 0);
            Check.feed(x, "thing a;thing bc");
            Check.due("end(16): all", x.end(16), 16);
            Check.due("end(15)", x.end(15), 16);
            Check.feed(x, ";");
            Check.due("count(7)", x.count(7), 16);
            Check.due("text()", x.text(), 2);
            Check.due("thing(1)", x.thing(1), 2);
            Check.feed(x, "thing a;");
            Check.due("end(0)", x.end(0), 8);
            Check.due("text() of none", x.text(), 0);
            Check.due("thing(0)", x.thing(0), -1);
        });
        Check.sentence("Promise 3: BAD (n above that, too)", () -> {
            FirstWords x = new FirstWords();
            Check.due("end(1) of none", x.end(1), -1);
            Check.feed(x, "thing a;");
            Check.due("end(9)", x.end(9), -1);
            Check.due("end(400)", x.end(400), -1);
            Check.due("end(-1)", x.end(-1), -1);
            for (int n : Check.FAR) Check.due("end(" + n + ")", x.end(n), -1);
            Check.due("it has as many as before", x.count(7), 8);
            Check.due("text()", x.text(), 1);
        });
    }

    private static void theText() {
        Check.sentence("Promise 4: how many lines", () -> {
            Check.taken("thing a;", 1);
            Check.taken("thing a;thing b;means a;word 0;plain;", 5);
        });
        Check.sentence("Promise 4: THE TAPE (empty then)", () -> {
            FirstWords x = new FirstWords();
            Check.due("text()", Check.tell(x, "thing a;"), 1);
            Check.due("count(7)", x.count(7), 0);
            Check.due("end(1)", x.end(1), -1);
            Check.due("feed", x.feed(0x2020202020202020L), 8);
            Check.due("text() of what came then", x.text(), 0);
        });
        Check.sentence("Promise 4: (empty then, by a FAULT, too)", () -> {
            FirstWords x = new FirstWords();
            Check.due("text()", Check.tell(x, "thing a;,"), -18);
            Check.due("count(7)", x.count(7), 0);
            Check.due("end(1)", x.end(1), -1);
            Check.due("text() of what came then", Check.tell(x, "thing a;"), 1);
        });
        Check.sentence("Promise 4: -10 less the place of its FAULT", () -> {
            FirstWords x = new FirstWords();
            Check.due("at the first byte", Check.tell(x, ","), -10);
            Check.due("at the last byte", Check.tell(x, " ".repeat(399) + ","), -409);
            Check.due("at the end", Check.tell(x, "thing" + " ".repeat(395)), -410);
        });
        Check.sentence("Promise 4: that which was told stays", () -> {
            FirstWords x = used();
            Check.due("text()", Check.tell(x, "thing c;means c;word 0;proud sees c;plain chance 10;"), -59);
            int[] counts = {2, 2, 2, 2, 2, 1, 2, 0, 5};
            for (int i = 0; i < 9; i++) Check.due("count(" + i + ")", x.count(i), counts[i]);
            Check.due("thing(0)", x.thing(0), 1);
            Check.due("meaning(1, 0)", x.meaning(1, 0), 1);
            Check.due("word(0)", x.word(0), 1);
            int[] kind = {1, 1, 1, 1, 5, 3};
            for (int what = 0; what < 6; what++) Check.due("kind(0, " + what + ")", x.kind(0, what), kind[what]);
            Check.due("fled(0)", x.fled(0), 1);
            Check.due("thinks(1, 0)", x.thinks(1, 0), 0);
            Check.due("left(0)", x.left(0), 2);
            Check.due("back(1)", x.back(1), 2);
        });
        Check.sentence("Promise 5: The FAULT of the latest text(); 0", () -> {
            FirstWords x = new FirstWords();
            Check.due("of none", x.fault(), 0);
            String[] texts = {",", ";", "thing i;", "plain unlike unlike;", "plain;".repeat(7), "plain;"};
            int[] faults = {1, 2, 3, 4, 5, 0};
            for (int i = 0; i < 6; i++) {
                Check.tell(x, texts[i]);
                Check.due("behind '" + texts[i] + "'", x.fault(), faults[i]);
            }
            Check.tell(x, ",");
            x.feed(0);
            x.end(99);
            x.thing(9);
            Check.due("other calls leave it", x.fault(), 1);
        });
    }

    // ---- Promises 6 to 9

    private static void whatIsTold() {
        Check.sentence("Promise 6: MARKS of a THING (bits). BAD", () -> {
            FirstWords x = Check.told(Check.ALL_ROOM);
            Check.due("thing(7)", x.thing(7), 128);
            Check.due("thing(8)", x.thing(8), -1);
            Check.due("thing(-1)", x.thing(-1), -1);
            for (int t : Check.FAR) Check.due("thing(" + t + ")", x.thing(t), -1);
            FirstWords y = Check.told("thing -;");
            Check.due("no marks", y.thing(0), 0);
            Check.due("thing(1) of one", y.thing(1), -1);
        });
        Check.sentence("Promise 7: 0 what it HAS, 1 has NOT, 2 how many MARKS it asks for", () -> {
            FirstWords x = Check.told("means -;means abcdefgh;means - not abcdefgh;means abcd not efgh;means h not a;");
            int[][] due = {{0, 0, 0}, {255, 0, 8}, {0, 255, 8}, {15, 240, 8}, {128, 1, 2}};
            for (int m = 0; m < 5; m++) {
                for (int what = 0; what < 3; what++) Check.due("meaning(" + m + ", " + what + ")", x.meaning(m, what), due[m][what]);
            }
        });
        Check.sentence("Promise 7: 3 THINGS that ARE it (bits)", () -> {
            FirstWords x = Check.told(Check.ALL_ROOM);
            int[] are = {1, 2, 4, 8, 16, 32, 64, 128, 255, 254, 0, 0};
            for (int m = 0; m < 12; m++) Check.due("meaning(" + m + ", 3)", x.meaning(m, 3), are[m]);
            Check.due("of no things", Check.told("means -;").meaning(0, 3), 0);
        });
        Check.sentence("Promise 7: 4 KINDS that CAN think it (bits)", () -> {
            FirstWords x = Check.told("means -;means a;means b not a;means - not abcdefgh;plain sees -;plain sees a;plain sees b;plain sees ab;"
                + "plain sees abcdefgh;plain;");
            int[] kinds = {63, 58, 56, 48};
            for (int m = 0; m < 4; m++) Check.due("meaning(" + m + ", 4)", x.meaning(m, 4), kinds[m]);
            Check.due("of no kinds", Check.told("means -;").meaning(0, 4), 0);
        });
        Check.sentence("Promise 7: BAD", () -> {
            FirstWords x = Check.told(Check.ALL_ROOM);
            Check.due("meaning(11, 4)", x.meaning(11, 4), 63);
            for (int what = 0; what < 5; what++) {
                Check.due("meaning(12, " + what + ")", x.meaning(12, what), -1);
                Check.due("meaning(-1, " + what + ")", x.meaning(-1, what), -1);
                for (int m : Check.FAR) Check.due("meaning(" + m + ", " + what + ")", x.meaning(m, what), -1);
            }
            Check.due("meaning(0, 5)", x.meaning(0, 5), -1);
            Check.due("meaning(0, -1)", x.meaning(0, -1), -1);
            for (int what : Check.FAR) Check.due("meaning(0, " + what + ")", x.meaning(0, what), -1);
            Check.due("meaning(1, 0) of one", Check.told("means a;").meaning(1, 0), -1);
        });
        Check.sentence("Promise 8: The TARGET of a SOUND. BAD", () -> {
            FirstWords x = Check.told("means a;".repeat(12) + "word 11;word 0;word 11;word 5;");
            int[] due = {11, 0, 11, 5, -1};
            for (int s = 0; s < 5; s++) Check.due("word(" + s + ")", x.word(s), due[s]);
            Check.due("word(-1)", x.word(-1), -1);
            for (int s : Check.FAR) Check.due("word(" + s + ")", x.word(s), -1);
            Check.due("word(1) of one", Check.told("means a;word 0;").word(1), -1);
        });
        Check.sentence("Promise 9: 0 plain 0, last 1, careful 2, proud 3", () -> {
            FirstWords x = Check.told("proud;careful;last;plain;");
            for (int k = 0; k < 4; k++) Check.due("kind(" + k + ", 0)", x.kind(k, 0), 3 - k);
        });
        Check.sentence("Promise 9: 2 fears (NONE), 3 unlike (1, 0)", () -> {
            FirstWords x = Check.told("thing a;thing b;plain;plain fears 0;plain fears 1;plain unlike;");
            int[] fears = {-4, 0, 1, -4};
            int[] unlike = {0, 0, 0, 1};
            for (int k = 0; k < 4; k++) Check.due("kind(" + k + ", 2)", x.kind(k, 2), fears[k]);
            for (int k = 0; k < 4; k++) Check.due("kind(" + k + ", 3)", x.kind(k, 3), unlike[k]);
        });
        Check.sentence("Promise 9: 5 MEANINGS that it CAN think (bits)", () -> {
            FirstWords x = Check.told(Check.ALL_ROOM);
            for (int k = 0; k < 6; k++) Check.due("kind(" + k + ", 5)", x.kind(k, 5), 4095);
            FirstWords y = Check.told("means -;means a;means - not a;means ab;plain sees -;plain sees a;plain sees b;plain sees ab;");
            int[] can = {1, 7, 1, 15};
            for (int k = 0; k < 4; k++) Check.due("kind(" + k + ", 5) of some", y.kind(k, 5), can[k]);
            Check.due("of no meanings", Check.told("plain;").kind(0, 5), 0);
        });
        Check.sentence("Promise 9: BAD", () -> {
            FirstWords x = Check.told(Check.ALL_ROOM);
            for (int what = 0; what < 6; what++) {
                Check.due("kind(6, " + what + ")", x.kind(6, what), -1);
                Check.due("kind(-1, " + what + ")", x.kind(-1, what), -1);
                for (int k : Check.FAR) Check.due("kind(" + k + ", " + what + ")", x.kind(k, what), -1);
            }
            Check.due("kind(0, 6)", x.kind(0, 6), -1);
            Check.due("kind(0, -1)", x.kind(0, -1), -1);
            for (int what : Check.FAR) Check.due("kind(0, " + what + ")", x.kind(0, what), -1);
            Check.due("kind(1, 0) of one", Check.told("plain;").kind(1, 0), -1);
        });
    }
}
