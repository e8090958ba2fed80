import java.util.ArrayList;
import java.util.LinkedHashMap;
import java.util.List;
import java.util.Map;
import java.util.function.ToIntFunction;

/** 'Terms': what is refused changes nothing (but THE TAPE, as told), and the first answer that fits. Each refused call by itself. */
public final class RefusedTest {
    private interface Call extends ToIntFunction<FirstWords> {
    }

    private static final Map<String, Call> REFUSED = new LinkedHashMap<>();
    private static final List<Integer> DUE = new ArrayList<>();

    public static void main(String[] args) {
        ofTheText();
        ofShowings();
        ofTheFewest();
        ofAnswers();
        ofTheirSound();
        ofImagesAndSheets();
        List<String> due = Snapshot.of(used());
        int i = 0;
        for (Map.Entry<String, Call> e : REFUSED.entrySet()) {
            int answer = DUE.get(i++);
            Check.sentence("what is refused changes nothing: " + e.getKey(), () -> changesNothing(e.getKey(), e.getValue(), answer, due));
        }
        Check.sentence("but THE TAPE, as told", RefusedTest::theTapeIsEmptied);
        Check.sentence("BAD -1 (.. there is no such THING, MEANING, SOUND, KIND, SHOWING, IMAGE, SHEET)", RefusedTest::thereIsNoSuch);
        Check.sentence("STATE -2 (as told)", () -> Check.due("back(1)", Check.told("plain;").back(1), -2));
        Check.sentence("FULL -3", RefusedTest::full);
        Check.sentence("NONE -4 (there is none)", RefusedTest::none);
        Check.sentence("the first that fits", RefusedTest::theFirstThatFits);
        Check.finish();
    }

    /** 24 showings, 12 of theirs, both images, three sheets, and half a line on the tape. */
    private static FirstWords used() {
        FirstWords x = Check.told("thing a;thing b;thing ab;means a;means b;means -;word 0;word 1;plain;proud unlike chance 3;last fears 1;careful chance 0;");
        x.show(0, 2, true);
        x.keep(0);
        x.theirs(0, true);
        x.heard(0, 1, 1);
        x.show(1, 1, true);
        x.keep(1);
        for (int i = 0; i < 22; i++) x.show(0, i < 21 ? 2 : 1, i < 21);
        for (int i = 0; i < 11; i++) x.theirs(2, true);
        x.sheet(0, 0, 6);
        x.lay(0, 1, 2);
        x.lay(0, 5, 1);
        x.sheet(1, 2, 3);
        x.lay(1, 0, 9);
        x.sheet(2, 1, 0);
        x.read(2, 0, 0, 1);
        Check.tell(x, "thing i;");
        Check.feed(x, "thing h;");
        return x;
    }

    private static void changesNothing(String name, Call call, int answer, List<String> due) {
        FirstWords x = used();
        Check.due(name, call.applyAsInt(x), answer);
        List<String> got = Snapshot.of(x);
        for (int i = 0; i < due.size() && i < got.size(); i++) {
            if (!due.get(i).equals(got.get(i))) {
                Check.holds(got.get(i) + ", due is " + due.get(i), false);
                return;
            }
        }
        Check.holds("as many answers", due.size() == got.size());
    }

    private static void refused(String name, int due, Call call) {
        REFUSED.put(name, call);
        DUE.add(due);
    }

    private static void ofTheText() {
        refused("end(9)", -1, x -> x.end(9));
        refused("end(-1)", -1, x -> x.end(-1));
        refused("thing(3)", -1, x -> x.thing(3));
        refused("meaning(3, 0)", -1, x -> x.meaning(3, 0));
        refused("meaning(0, 5)", -1, x -> x.meaning(0, 5));
        refused("word(2)", -1, x -> x.word(2));
        refused("kind(4, 0)", -1, x -> x.kind(4, 0));
        refused("kind(0, 6)", -1, x -> x.kind(0, 6));
    }

    private static void ofShowings() {
        refused("show(2, 0, true)", -1, x -> x.show(2, 0, true));
        refused("show(0, 3, true)", -1, x -> x.show(0, 3, true));
        refused("show(0, 0, true) of the full", -3, x -> x.show(0, 0, true));
        refused("show(1, 1, false) of the full", -3, x -> x.show(1, 1, false));
        refused("teach(2, 0)", -1, x -> x.teach(2, 0));
        refused("teach(0, 3)", -1, x -> x.teach(0, 3));
        refused("teach(0, 1) of the full", -3, x -> x.teach(0, 1));
        refused("shown(24, 0)", -1, x -> x.shown(24, 0));
        refused("shown(0, 3)", -1, x -> x.shown(0, 3));
        refused("thinks(4, 0)", -1, x -> x.thinks(4, 0));
        refused("fits(0, 2)", -1, x -> x.fits(0, 2));
        refused("same(4, 0)", -1, x -> x.same(4, 0));
        refused("fled(4)", -1, x -> x.fled(4));
        refused("against(0, 2)", -1, x -> x.against(0, 2));
        refused("common(16)", -1, x -> x.common(16));
    }

    private static void ofTheFewest() {
        refused("teaching(16, 0, 0)", -1, x -> x.teaching(16, 0, 0));
        refused("teaching(1, 2, 0)", -1, x -> x.teaching(1, 2, 0));
        refused("teaching(1, 0, 1)", -1, x -> x.teaching(1, 0, 1));
        refused("teaching(4, 0, 0), frightened", -4, x -> x.teaching(4, 0, 0));
        refused("teaching(4, 0, 10), frightened", -1, x -> x.teaching(4, 0, 10));
        refused("never(4, 0)", -1, x -> x.never(4, 0));
        refused("order(16, 0)", -1, x -> x.order(16, 0));
        refused("order(1, 12)", -1, x -> x.order(1, 12));
        refused("first(2, 0)", -1, x -> x.first(2, 0));
        refused("first(0, 3)", -1, x -> x.first(0, 3));
        refused("fears(2)", -1, x -> x.fears(2));
    }

    private static void ofAnswers() {
        refused("answer(4, 0, 0)", -1, x -> x.answer(4, 0, 0));
        refused("heard(2, 0, 1)", -1, x -> x.heard(2, 0, 1));
        refused("heard(0, 3, 1)", -1, x -> x.heard(0, 3, 1));
        refused("heard(0, 0, 2)", -1, x -> x.heard(0, 0, 2));
        refused("heard(0, 0, -1)", -1, x -> x.heard(0, 0, -1));
        refused("left(3)", -1, x -> x.left(3));
        refused("ask(3)", -1, x -> x.ask(3));
        refused("sure(2, 0)", -1, x -> x.sure(2, 0));
        refused("likely(2, 0)", -1, x -> x.likely(2, 0));
    }

    private static void ofTheirSound() {
        refused("theirs(3, true)", -1, x -> x.theirs(3, true));
        refused("theirs(1, false) of the full", -3, x -> x.theirs(1, false));
        refused("meant(4)", -1, x -> x.meant(4));
        refused("build(3, 0)", -1, x -> x.build(3, 0));
        refused("build(0, 3)", -1, x -> x.build(0, 3));
        refused("build(2, 0), none does", -4, x -> x.build(2, 0));
    }

    private static void ofImagesAndSheets() {
        refused("keep(2)", -1, x -> x.keep(2));
        refused("keep(-1)", -1, x -> x.keep(-1));
        refused("back(2)", -1, x -> x.back(2));
        refused("sheet(4, 0, 1)", -1, x -> x.sheet(4, 0, 1));
        refused("sheet(0, 3, 1)", -1, x -> x.sheet(0, 3, 1));
        refused("sheet(0, 1, 41)", -1, x -> x.sheet(0, 1, 41));
        refused("sheet(0, 1, -1)", -14, x -> x.sheet(0, 1, -1));
        refused("sheet(3, 1, -1)", -14, x -> x.sheet(3, 1, -1));
        refused("lay(4, 0, 1)", -1, x -> x.lay(4, 0, 1));
        refused("lay(3, 0, 1)", -11, x -> x.lay(3, 0, 1));
        refused("lay(0, 6, 1)", -12, x -> x.lay(0, 6, 1));
        refused("lay(0, -1, 1)", -12, x -> x.lay(0, -1, 1));
        refused("read(4, 0, 0, 1)", -1, x -> x.read(4, 0, 0, 1));
        refused("read(0, 3, 0, 1)", -1, x -> x.read(0, 3, 0, 1));
        refused("read(0, 0, 0, 14)", -1, x -> x.read(0, 0, 0, 14));
        refused("read(1, 2, 0, 1)", -20, x -> x.read(1, 2, 0, 1));
        refused("read(0, 0, 0, 1) of the full", -3, x -> x.read(0, 0, 0, 1));
        refused("count(9)", -1, x -> x.count(9));
    }

    private static void thereIsNoSuch() {
        FirstWords x = Check.told(Check.ALL_ROOM);
        x.show(3, 7, true);
        Check.due("THING 7", x.thing(7), 128);
        Check.due("THING 8", x.thing(8), -1);
        Check.due("MEANING 11", x.meaning(11, 0), 0);
        Check.due("MEANING 12", x.meaning(12, 0), -1);
        Check.due("SOUND 3", x.word(3), 9);
        Check.due("SOUND 4", x.word(4), -1);
        Check.due("KIND 5", x.fled(5), 0);
        Check.due("KIND 6", x.fled(6), -1);
        Check.due("SHOWING 0", x.shown(0, 0), 3);
        Check.due("SHOWING 1", x.shown(1, 0), -1);
        Check.due("IMAGE 1", x.keep(1), 0);
        Check.due("IMAGE 2", x.keep(2), -1);
        Check.due("SHEET 3", x.sheet(3, 0, 0), 1);
        Check.due("SHEET 4", x.sheet(4, 0, 0), -1);
    }

    private static void full() {
        FirstWords x = used();
        Check.due("show(0, 0, true)", x.show(0, 0, true), -3);
        Check.due("teach(0, 0)", x.teach(0, 0), -3);
        Check.due("theirs(0, true)", x.theirs(0, true), -3);
        Check.due("read(0, 0, 0, 1)", x.read(0, 0, 0, 1), -3);
        for (int i = 0; i < 49; i++) x.feed(0);
        Check.due("feed(0)", x.feed(0), -3);
    }

    private static void none() {
        FirstWords x = new FirstWords();
        Check.due("undo()", x.undo(), -4);
        Check.due("order(0, 0) of no sounds is 0", x.order(0, 0), 0);
        for (int what = 0; what < 3; what++) Check.due("ask(" + what + ")", x.ask(what), -4);
        Check.due("meant(1)", x.meant(1), -4);
        Check.due("meant(3)", x.meant(3), -4);
        Check.due("draw(1)", x.draw(1), -4);
        Check.due("count(8)", x.count(8), -4);
        FirstWords y = Check.told("means a;means -;word 0;plain chance 0;");
        Check.due("thinks(0, 0)", y.thinks(0, 0), -4);
        Check.due("fled(0)", y.fled(0), -4);
        Check.due("kind(0, 2)", y.kind(0, 2), -4);
        Check.due("teaching(1, 0, 0)", y.teaching(1, 0, 0), -4);
        Check.due("order(1, 0)", y.order(1, 0), -4);
        Check.due("order(1, 10)", y.order(1, 10), -4);
        Check.due("first(0, 0)", y.first(0, 0), -4);
        Check.due("likely(0, 0)", y.likely(0, 0), -4);
        Check.due("build(0, 2)", y.build(0, 2), -4);
        Check.due("draw(1)", y.draw(1), -4);
    }

    private static void theFirstThatFits() {
        FirstWords x = used();
        Check.due("BAD ahead of FULL: show(2, 0, true)", x.show(2, 0, true), -1);
        Check.due("BAD ahead of FULL: teach(0, 3)", x.teach(0, 3), -1);
        Check.due("BAD ahead of FULL: theirs(3, true)", x.theirs(3, true), -1);
        Check.due("BAD ahead of FULL: read(0, 0, 0, 14)", x.read(0, 0, 0, 14), -1);
        Check.due("BAD ahead of NONE: teaching(4, 0, 9)", x.teaching(4, 0, 9), -1);
        Check.due("BAD ahead of NONE: build(2, 3)", x.build(2, 3), -1);
        FirstWords y = Check.told("means a;word 0;plain chance 0;");
        Check.due("BAD ahead of STATE: back(2)", y.back(2), -1);
        Check.due("BAD ahead of NONE: order(1, 11)", y.order(1, 11), -1);
        Check.due("BAD ahead of NONE: first(0, 3)", y.first(0, 3), -1);
        Check.due("BAD ahead of NONE: first(1, 0)", y.first(1, 0), -1);
        Check.due("BAD ahead of NONE: likely(0, 2)", y.likely(0, 2), -1);
        Check.due("BAD ahead of NONE: ask(3)", y.ask(3), -1);
        Check.due("BAD ahead of NONE: meant(4)", y.meant(4), -1);
        Check.due("BAD ahead of a FAULT: lay(4, 0, 0)", y.lay(4, 0, 0), -1);
        Check.due("BAD ahead of a FAULT: sheet(4, 0, -1)", y.sheet(4, 0, -1), -1);
    }

    private static void theTapeIsEmptied() {
        FirstWords x = used();
        x.end(7);
        Check.due("text() of 'thing h'", x.text(), -17);
        Check.due("count(7)", x.count(7), 0);
        FirstWords y = used();
        y.end(0);
        Check.tell(y, "thing h");
        List<String> due = Snapshot.of(y);
        List<String> got = Snapshot.of(x);
        Check.holds("nothing else is changed by it", due.equals(got));
        FirstWords z = new FirstWords();
        for (int i = 0; i < 50; i++) z.feed(0x2020202020202020L);
        Check.due("feed of the full", z.feed(-1L), -3);
        Check.due("count(7)", z.count(7), 400);
        Check.due("text()", z.text(), 0);
    }
}
