import java.util.ArrayList;
import java.util.List;

/**
 * All that can be asked of an object, and what it answers: calls that change nothing first, then such as bring out what
 * is hidden; some 250 calls, for an object that has had 250 at most.
 */
final class Snapshot {
    private final FirstWords x;
    private final List<String> told = new ArrayList<>();

    private Snapshot(FirstWords x) {
        this.x = x;
    }

    static List<String> of(FirstWords x) {
        Snapshot s = new Snapshot(x);
        for (int what = 0; what <= 8; what++) s.add("count(" + what + ")", x.count(what));
        s.add("fault()", x.fault());
        s.add("torn()", x.torn());
        s.whatIsTold();
        s.scene();
        s.whatIsHidden();
        return s.told;
    }

    private void add(String call, long answer) {
        told.add(call + " = " + answer);
    }

    private void whatIsTold() {
        int things = x.count(0), meanings = x.count(1), sounds = x.count(2), kinds = x.count(3);
        for (int t = 0; t < things; t++) add("thing(" + t + ")", x.thing(t));
        for (int m = 0; m < meanings; m++) for (int what = 0; what < 2; what++) add("meaning(" + m + ", " + what + ")", x.meaning(m, what));
        for (int s = 0; s < sounds; s++) add("word(" + s + ")", x.word(s));
        for (int k = 0; k < kinds; k++) for (int what = 0; what < 5; what++) add("kind(" + k + ", " + what + ")", x.kind(k, what));
    }

    private void scene() {
        int sounds = x.count(2), kinds = x.count(3);
        showings("");
        for (int k = 0; k < kinds; k++) {
            add("fled(" + k + ")", x.fled(k));
            for (int s = 0; s < sounds; s++) {
                add("thinks(" + k + ", " + s + ")", x.thinks(k, s));
                add("against(" + k + ", " + s + ")", x.against(k, s));
            }
        }
        add("left(0)", x.left(0));
        add("meant(2)", x.meant(2));
        add("count(5)", x.count(5));
    }

    private void showings(String of) {
        int showings = x.count(4);
        for (int i = 0; i < showings; i++) for (int what = 0; what < 3; what++) add("shown(" + i + ", " + what + ")" + of, x.shown(i, what));
    }

    private void whatIsHidden() {
        for (int i = 0; i < 2; i++) {
            add("back(" + i + ")", x.back(i));
            scene();
        }
        x.clear();
        for (int k = 0; k < 4; k++) {
            for (int lane = 0; lane < 3; lane++) add("read(" + k + ", " + lane + ", 0, 2)", x.read(k, lane, 0, 2));
            add("lay(" + k + ", 5, 0)", x.lay(k, 5, 0));
        }
        showings(" of sheets");
        add("text()", x.text());
        add("thing(0) of the tape", x.thing(0));
    }
}
