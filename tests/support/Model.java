import java.util.ArrayList;
import java.util.Arrays;
import java.util.List;
import java.util.function.IntPredicate;
import java.util.regex.Matcher;
import java.util.regex.Pattern;

/**
 * The document once more, as slow and as near to its words as can be, with the Java library:
 * all is worked out anew from the showings, rows are tried one and all, sheets are Java's own rows.
 */
final class Model {
    static final int BAD = -1, STATE = -2, FULL = -3, NONE = -4;

    record Thing(int marks) { }
    record Meaning(int has, int not) {
        boolean is(Thing t) {
            return (t.marks & has) == has && (t.marks & not) == 0;
        }
        int asks() {
            return Integer.bitCount(has) + Integer.bitCount(not);
        }
    }
    record Showing(int s, int t, boolean so) { }
    record Theirs(int t, boolean so) { }
    record Image(List<Showing> showings, int left, List<Theirs> theirs) { }
    static final class Kind {
        int sort, sees = 255, fears = NONE, chance = 1;
        boolean unlike;
    }

    static final class World {
        final List<Thing> things = new ArrayList<>();
        final List<Meaning> meanings = new ArrayList<>();
        final List<Integer> words = new ArrayList<>();
        final List<Kind> kinds = new ArrayList<>();
    }

    @SuppressWarnings("serial")
    private static final class Refused extends RuntimeException {
        final int fault, place;
        Refused(int fault, int place) {
            super(null, null, false, false);
            this.fault = fault;
            this.place = place;
        }
    }

    private final StringBuilder tape = new StringBuilder();
    private World w = new World();
    private List<Showing> showings = new ArrayList<>();
    private int left = 0;
    private List<Theirs> theirs = new ArrayList<>();
    private final Image[] images = new Image[2];
    private final Object[] sheets = new Object[4];
    private int fault = 0, torn = 0;

    // ---- the text

    int feed(long v) {
        if (tape.length() + 8 > 400) return FULL;
        for (byte b : java.nio.ByteBuffer.allocate(8).putLong(v).array()) tape.append((char) (b & 255));
        return tape.length();
    }

    int end(int n) {
        if (n < 0 || n > tape.length()) return BAD;
        int had = tape.length();
        tape.setLength(n);
        return had;
    }

    private static final class Reader {
        private static final Pattern TOKEN = Pattern.compile(" *([a-z]+|[0-9]+|;|-|\\z)");
        final String text;
        int from = 0, place = 0;
        String token;
        Reader(String text) {
            this.text = text;
            next();
        }
        void next() {
            Matcher m = TOKEN.matcher(text).region(from, text.length());
            if (!m.lookingAt()) {
                int p = from;
                while (text.charAt(p) == ' ') p++;
                throw new Refused(1, p);
            }
            token = m.group(1);
            place = m.start(1);
            from = m.end();
            if (token.matches("[0-9]{3,}")) throw new Refused(1, place);
        }
        boolean isName() {
            return token.matches("[a-z]+");
        }
        int letters(int notOf) {
            if (!token.equals("-") && !isName()) throw new Refused(2, place);
            int bits = 0;
            if (isName()) {
                for (char c : token.toCharArray()) {
                    int bit = c > 'h' ? 0 : 1 << c - 'a';
                    if (bit == 0 || (bits & bit) != 0 || (notOf & bit) != 0) throw new Refused(3, place);
                    bits |= bit;
                }
            }
            next();
            return bits;
        }
        int number(int below) {
            if (!token.matches("[0-9]+")) throw new Refused(2, place);
            int n = Integer.parseInt(token);
            if (n >= below) throw new Refused(3, place);
            next();
            return n;
        }
        void room(int there, int most) {
            if (there >= most) throw new Refused(5, place);
            next();
        }
    }

    int text() {
        String all = tape.toString();
        tape.setLength(0);
        World told = new World();
        int lines = 0;
        try {
            Reader r = new Reader(all);
            while (!r.token.isEmpty()) {
                line(r, told);
                lines++;
            }
        } catch (Refused f) {
            fault = f.fault;
            return -10 - f.place;
        }
        fault = 0;
        w = told;
        showings.clear();
        theirs.clear();
        images[0] = images[1] = null;
        left = allKinds();
        return lines;
    }

    private static void line(Reader r, World told) {
        switch (r.token) {
            case "thing" -> {
                r.room(told.things.size(), 8);
                told.things.add(new Thing(r.letters(0)));
            }
            case "means" -> {
                r.room(told.meanings.size(), 12);
                int has = r.letters(0), not = 0;
                if (r.token.equals("not")) {
                    r.next();
                    not = r.letters(has);
                }
                told.meanings.add(new Meaning(has, not));
            }
            case "word" -> {
                r.room(told.words.size(), 4);
                told.words.add(r.number(told.meanings.size()));
            }
            case "plain", "last", "careful", "proud" -> {
                Kind k = new Kind();
                k.sort = List.of("plain", "last", "careful", "proud").indexOf(r.token);
                r.room(told.kinds.size(), 6);
                withs(r, told, k);
                told.kinds.add(k);
            }
            default -> throw new Refused(2, r.place);
        }
        if (!r.token.equals(";")) throw new Refused(2, r.place);
        r.next();
    }

    private static void withs(Reader r, World told, Kind k) {
        List<String> were = new ArrayList<>();
        while (r.isName()) {
            String with = r.token;
            if (!List.of("sees", "fears", "unlike", "chance").contains(with)) throw new Refused(2, r.place);
            if (were.contains(with)) throw new Refused(4, r.place);
            were.add(with);
            r.next();
            switch (with) {
                case "sees" -> k.sees = r.letters(0);
                case "fears" -> k.fears = r.number(told.things.size());
                case "unlike" -> k.unlike = true;
                default -> k.chance = r.number(10);
            }
        }
    }

    int fault() {
        return fault;
    }

    private boolean noThing(int t) {
        return t < 0 || t >= w.things.size();
    }
    private boolean noMeaning(int m) {
        return m < 0 || m >= w.meanings.size();
    }
    private boolean noSound(int s) {
        return s < 0 || s >= w.words.size();
    }
    private boolean noKind(int k) {
        return k < 0 || k >= w.kinds.size();
    }
    private boolean noKinds(int bits) {
        return bits < 0 || bits > allKinds();
    }
    private int allKinds() {
        return (1 << w.kinds.size()) - 1;
    }
    private static int bits(int n, IntPredicate p) {
        int b = 0;
        for (int i = 0; i < n; i++) if (p.test(i)) b |= 1 << i;
        return b;
    }
    private int thingsThatAre(int m) {
        return bits(w.things.size(), t -> w.meanings.get(m).is(w.things.get(t)));
    }
    private boolean can(int k, int m) {
        Meaning a = w.meanings.get(m);
        return ((a.has | a.not) & ~w.kinds.get(k).sees) == 0;
    }

    int thing(int t) {
        return noThing(t) ? BAD : w.things.get(t).marks;
    }

    int meaning(int m, int what) {
        if (noMeaning(m)) return BAD;
        Meaning a = w.meanings.get(m);
        return switch (what) {
            case 0 -> a.has;
            case 1 -> a.not;
            case 2 -> a.asks();
            case 3 -> thingsThatAre(m);
            case 4 -> bits(w.kinds.size(), k -> can(k, m));
            default -> BAD;
        };
    }

    int word(int s) {
        return noSound(s) ? BAD : w.words.get(s);
    }

    int kind(int k, int what) {
        if (noKind(k)) return BAD;
        Kind a = w.kinds.get(k);
        return switch (what) {
            case 0 -> a.sort;
            case 1 -> a.sees;
            case 2 -> a.fears;
            case 3 -> a.unlike ? 1 : 0;
            case 4 -> a.chance;
            case 5 -> bits(w.meanings.size(), m -> can(k, m));
            default -> BAD;
        };
    }

    // ---- what one kind thinks behind a row of showings

    private final class Head {
        final int k;
        final int[] thinks = {NONE, NONE, NONE, NONE};
        final int[] against = new int[4];
        int latest = NONE, fled = NONE;

        Head(int k, List<Showing> row) {
            this.k = k;
            for (int i = 0; i < row.size(); i++) see(row, i);
        }

        void see(List<Showing> row, int i) {
            if (fled != NONE) return;
            Showing now = row.get(i);
            Kind kind = w.kinds.get(k);
            if (now.t == kind.fears) {
                fled = i;
                Arrays.fill(thinks, NONE);
                Arrays.fill(against, 0);
                return;
            }
            int s = now.s;
            List<Integer> them = new ArrayList<>();
            for (int m : fitting(row.subList(0, i + 1), s)) {
                boolean ofAnother = false;
                for (int o = 0; o < 4; o++) ofAnother |= o != s && thinks[o] == m;
                if (can(k, m) && !(kind.unlike && ofAnother)) them.add(m);
            }
            int plainest = plainestOf(them);
            switch (kind.sort) {
                case 0 -> thinks[s] = plainest;
                case 1 -> thinks[s] = them.contains(latest) ? latest : plainest;
                case 2 -> thinks[s] = them.stream().map(Model.this::thingsThatAre).distinct().count() == 1 ? plainest : NONE;
                default -> {
                    if (thinks[s] == NONE) {
                        thinks[s] = plainest;
                    } else if (w.meanings.get(thinks[s]).is(w.things.get(now.t)) != now.so) {
                        against[s]++;
                        if (against[s] == 2) {
                            against[s] = 0;
                            thinks[s] = plainest;
                        }
                    }
                }
            }
            if (thinks[s] != NONE) latest = thinks[s];
        }
    }

    private List<Integer> fitting(List<Showing> row, int s) {
        List<Integer> them = new ArrayList<>();
        for (int m = 0; m < w.meanings.size(); m++) {
            boolean fits = true;
            for (Showing x : row) if (x.s == s && w.meanings.get(m).is(w.things.get(x.t)) != x.so) fits = false;
            if (fits) them.add(m);
        }
        return them;
    }

    private int plainestOf(List<Integer> them) {
        int best = NONE;
        for (int m : them) if (best == NONE || w.meanings.get(m).asks() < w.meanings.get(best).asks()) best = m;
        return best;
    }

    private boolean isSame(Head h, int s) {
        return h.thinks[s] != NONE && thingsThatAre(h.thinks[s]) == thingsThatAre(w.words.get(s));
    }

    private Showing trueShowing(int s, int t) {
        return new Showing(s, t, w.meanings.get(w.words.get(s)).is(w.things.get(t)));
    }

    // ---- showings

    int show(int s, int t, boolean so) {
        if (noSound(s) || noThing(t)) return BAD;
        if (showings.size() >= 24) return FULL;
        showings.add(new Showing(s, t, so));
        return showings.size();
    }

    int teach(int s, int t) {
        return noSound(s) || noThing(t) ? BAD : show(s, t, trueShowing(s, t).so);
    }

    int undo() {
        if (showings.isEmpty()) return NONE;
        showings.remove(showings.size() - 1);
        return showings.size();
    }

    int clear() {
        int were = showings.size();
        showings.clear();
        left = allKinds();
        return were;
    }

    int shown(int i, int what) {
        if (i < 0 || i >= showings.size() || what < 0 || what > 2) return BAD;
        Showing x = showings.get(i);
        return what == 0 ? x.s : what == 1 ? x.t : x.so ? 1 : 0;
    }

    int thinks(int k, int s) {
        return noKind(k) || noSound(s) ? BAD : new Head(k, showings).thinks[s];
    }

    int fits(int k, int s) {
        return noKind(k) || noSound(s) ? BAD
            : bits(w.meanings.size(), m -> can(k, m) && fitting(showings, s).contains(m));
    }

    int same(int k, int s) {
        return noKind(k) || noSound(s) ? BAD : isSame(new Head(k, showings), s) ? 1 : 0;
    }

    int fled(int k) {
        return noKind(k) ? BAD : new Head(k, showings).fled;
    }

    int against(int k, int s) {
        return noKind(k) || noSound(s) ? BAD : new Head(k, showings).against[s];
    }

    int common(int kinds) {
        if (noKinds(kinds)) return BAD;
        return bits(w.words.size(), s -> isSameForAll(kinds, s, showings));
    }

    private boolean isSameForAll(int kinds, int s, List<Showing> row) {
        for (int k = 0; k < w.kinds.size(); k++) {
            if ((kinds >> k & 1) == 0) continue;
            Head h = new Head(k, row);
            if (h.fled != NONE || !isSame(h, s)) return false;
        }
        return true;
    }

    // ---- the fewest

    /** The row of things, or null. */
    private List<Integer> row(List<Showing> from, int kinds, int s, int most) {
        for (int n = 0; n <= most; n++) {
            int rows = 1;
            for (int i = 0; i < n; i++) rows *= w.things.size();
            for (int r = 0; r < rows; r++) {
                List<Integer> things = new ArrayList<>();
                for (int i = 0, rest = r; i < n; i++, rest /= w.things.size()) things.add(0, rest % w.things.size());
                if (isSameForAll(kinds, s, with(from, s, things))) return things;
            }
        }
        return null;
    }

    private List<Showing> with(List<Showing> from, int s, List<Integer> things) {
        List<Showing> row = new ArrayList<>(from);
        for (int t : things) row.add(trueShowing(s, t));
        return row;
    }

    int teaching(int kinds, int s, int what) {
        if (noKinds(kinds) || noSound(s) || what != 0 && (what < 10 || what > 14)) return BAD;
        List<Integer> row = row(showings, kinds, s, 5);
        if (what == 0) return row == null ? NONE : row.size();
        return row == null || what - 10 >= row.size() ? BAD : row.get(what - 10);
    }

    int never(int k, int s) {
        if (noKind(k) || noSound(s)) return BAD;
        for (int m = 0; m < w.meanings.size(); m++) {
            if (can(k, m) && thingsThatAre(m) == thingsThatAre(w.words.get(s))) return 0;
        }
        return 1;
    }

    int order(int kinds, int what) {
        if (noKinds(kinds) || what != 0 && (what < 10 || what - 10 >= w.words.size())) return BAD;
        List<List<Integer>> orders = new ArrayList<>();
        orders(new ArrayList<>(), orders);
        List<Integer> best = null;
        int fewest = 0;
        for (List<Integer> sounds : orders) {
            List<Showing> row = new ArrayList<>();
            for (int s : sounds) {
                List<Integer> things = row == null ? null : row(row, kinds, s, 3);
                row = things == null ? null : with(row, s, things);
            }
            if (row != null && (best == null || row.size() < fewest)) {
                best = sounds;
                fewest = row.size();
            }
        }
        return best == null ? NONE : what == 0 ? fewest : best.get(what - 10);
    }

    private void orders(List<Integer> ahead, List<List<Integer>> all) {
        if (ahead.size() == w.words.size()) {
            all.add(new ArrayList<>(ahead));
            return;
        }
        for (int s = 0; s < w.words.size(); s++) {
            if (ahead.contains(s)) continue;
            ahead.add(s);
            orders(ahead, all);
            ahead.remove(ahead.size() - 1);
        }
    }

    private int chances(IntPredicate of) {
        int sum = 0;
        for (int k = 0; k < w.kinds.size(); k++) if (of.test(k)) sum += w.kinds.get(k).chance;
        return sum;
    }

    private static int fraction(int n, int d, boolean lower) {
        int g = java.math.BigInteger.valueOf(n).gcd(java.math.BigInteger.valueOf(d)).intValue();
        return lower ? d / g : n / g;
    }

    int first(int s, int what) {
        if (noSound(s) || what < 0 || what > 2) return BAD;
        int best = NONE, most = NONE;
        for (int t = 0; t < w.things.size(); t++) {
            int thing = t;
            if (w.kinds.stream().anyMatch(k -> k.chance > 0 && k.fears == thing)) continue;
            List<Showing> row = List.of(trueShowing(s, t));
            int chance = chances(k -> isSame(new Head(k, row), s));
            if (best == NONE || chance > most) {
                best = t;
                most = chance;
            }
        }
        int all = chances(k -> true);
        if (best == NONE || all == 0) return NONE;
        return what == 0 ? best : fraction(most, all, what == 2);
    }

    int fears(int what) {
        if (what == 0) return bits(w.things.size(), t -> w.kinds.stream().anyMatch(k -> k.chance > 0 && k.fears == t));
        if (what == 1) return bits(w.things.size(), t -> w.kinds.stream().noneMatch(k -> k.fears == t));
        return BAD;
    }

    // ---- what comes back

    int answer(int k, int s, int t) {
        if (noKind(k) || noSound(s) || noThing(t)) return BAD;
        int m = thinks(k, s);
        return m == NONE ? NONE : w.meanings.get(m).is(w.things.get(t)) ? 1 : 0;
    }

    int heard(int s, int t, int answer) {
        if (noSound(s) || noThing(t) || !List.of(0, 1, NONE).contains(answer)) return BAD;
        left = bits(w.kinds.size(), k -> (left >> k & 1) == 1 && answer(k, s, t) == answer);
        return left;
    }

    int left(int what) {
        return switch (what) {
            case 0 -> left;
            case 1 -> chances(k -> (left >> k & 1) == 1);
            case 2 -> chances(k -> true);
            default -> BAD;
        };
    }

    int ask(int what) {
        if (what < 0 || what > 2) return BAD;
        int[] best = null;
        for (int s = 0; s < w.words.size(); s++) {
            for (int t = 0; t < w.things.size(); t++) {
                int greatest = 0;
                for (int a : new int[] {0, 1, NONE}) {
                    int sound = s, thing = t;
                    greatest = Math.max(greatest, chances(k -> (left >> k & 1) == 1 && answer(k, sound, thing) == a));
                }
                if (best == null || greatest < best[2]) best = new int[] {s, t, greatest};
            }
        }
        return best == null || left == 0 ? NONE : best[what];
    }

    int sure(int s, int what) {
        if (noSound(s) || what < 0 || what > 1) return BAD;
        int target = thingsThatAre(w.words.get(s));
        for (int n = 0; n <= 8; n++) {
            for (int tests = 0; tests < 1 << w.things.size(); tests++) {
                boolean does = Integer.bitCount(tests) == n;
                for (int m = 0; m < w.meanings.size(); m++) {
                    int are = thingsThatAre(m);
                    if (meaning(m, 4) != 0 && are != target && (are & tests) == (target & tests)) does = false;
                }
                if (does) return what == 0 ? n : tests;
            }
        }
        throw new IllegalStateException();
    }

    int likely(int s, int what) {
        if (noSound(s) || what < 0 || what > 1) return BAD;
        int all = chances(k -> true);
        return all == 0 ? NONE : fraction(chances(k -> same(k, s) == 1), all, what == 1);
    }

    // ---- their sound

    int theirs(int t, boolean so) {
        if (noThing(t)) return BAD;
        if (theirs.size() >= 12) return FULL;
        theirs.add(new Theirs(t, so));
        return theirs.size();
    }

    int hush() {
        int were = theirs.size();
        theirs.clear();
        return were;
    }

    int meant(int what) {
        List<Integer> them = new ArrayList<>();
        for (int m = 0; m < w.meanings.size(); m++) {
            int meaning = m;
            if (theirs.stream().allMatch(x -> w.meanings.get(meaning).is(w.things.get(x.t)) == x.so)) them.add(m);
        }
        switch (what) {
            case 0: return them.size();
            case 1: return plainestOf(them);
            case 2: return them.stream().mapToInt(m -> 1 << m).sum();
            case 3: break;
            default: return BAD;
        }
        int best = NONE;
        long most = -1;
        for (int t = 0; t < w.things.size() && !them.isEmpty(); t++) {
            Thing thing = w.things.get(t);
            long are = them.stream().filter(m -> w.meanings.get(m).is(thing)).count();
            long go = Math.min(are, them.size() - are);
            if (go > most) {
                most = go;
                best = t;
            }
        }
        return best;
    }

    int build(int m, int what) {
        if (noMeaning(m) || what < 0 || what > 2) return BAD;
        int want = thingsThatAre(m), n = w.words.size();
        for (int one = 0; one < n; one++) {
            if (thingsThatAre(w.words.get(one)) == want) return what == 0 ? 1 : what == 1 ? one : NONE;
        }
        for (int way = 2; way <= 3; way++) {
            for (int one = 0; one < n; one++) {
                for (int two = 0; two < n; two++) {
                    int a = thingsThatAre(w.words.get(one)), b = thingsThatAre(w.words.get(two));
                    if (one != two && (way == 2 ? a & b : a & ~b) == want) return what == 0 ? way : what == 1 ? one : two;
                }
            }
        }
        return NONE;
    }

    int draw(int seed) {
        List<Integer> urn = new ArrayList<>();
        for (int k = 0; k < w.kinds.size(); k++) for (int i = 0; i < w.kinds.get(k).chance; i++) urn.add(k);
        if (urn.isEmpty()) return NONE;
        long x = (long) seed * 1103515245L + 12345L;
        return urn.get((int) ((x & 0x7fff0000L) >> 16) % urn.size());
    }

    // ---- images, sheets

    int keep(int i) {
        if (i < 0 || i > 1) return BAD;
        int was = images[i] == null ? 0 : 1;
        images[i] = new Image(List.copyOf(showings), left, List.copyOf(theirs));
        return was;
    }

    int back(int i) {
        if (i < 0 || i > 1) return BAD;
        if (images[i] == null) return STATE;
        showings = new ArrayList<>(images[i].showings);
        left = images[i].left;
        theirs = new ArrayList<>(images[i].theirs);
        return showings.size();
    }

    int sheet(int k, int lane, int n) {
        if (k < 0 || k > 3 || lane < 0 || lane > 2 || n > 40) return BAD;
        try {
            sheets[k] = lane == 0 ? new byte[n] : lane == 1 ? new short[n] : (Object) new int[n];
        } catch (NegativeArraySizeException e) {
            return -14;
        }
        return 1;
    }

    int lay(int k, int i, int v) {
        if (k < 0 || k > 3) return BAD;
        try {
            if (sheets[k] instanceof byte[] row) row[i] = (byte) v;
            else if (sheets[k] instanceof short[] row) row[i] = (short) v;
            else ((int[]) sheets[k])[i] = v;
        } catch (NullPointerException e) {
            return -11;
        } catch (ArrayIndexOutOfBoundsException e) {
            return -12;
        }
        return 1;
    }

    private static int cell(Object sheet, int lane, int i) {
        return lane == 0 ? ((byte[]) sheet)[i] : lane == 1 ? ((short[]) sheet)[i] : ((int[]) sheet)[i];
    }

    int read(int k, int lane, int f, int n) {
        if (k < 0 || k > 3 || lane < 0 || lane > 2 || n < 0 || n > 13) return BAD;
        List<Showing> come = new ArrayList<>();
        int met = 0;
        try {
            for (int i = 0; i < n; i++) {
                int s = cell(sheets[k], lane, f + 3 * i);
                int t = cell(sheets[k], lane, f + 3 * i + 1);
                int so = cell(sheets[k], lane, f + 3 * i + 2);
                if (noSound(s) || noThing(t) || so < 0 || so > 1) return -20 - i;
                if (showings.size() + come.size() == 24) return FULL;
                come.add(new Showing(s, t, so == 1));
            }
        } catch (NullPointerException e) {
            met = 1;
        } catch (ArrayIndexOutOfBoundsException e) {
            met = 2;
        } catch (ClassCastException e) {
            met = 3;
        }
        torn = met;
        showings.addAll(come);
        return come.size();
    }

    int torn() {
        return torn;
    }

    int count(int what) {
        return switch (what) {
            case 0 -> w.things.size();
            case 1 -> w.meanings.size();
            case 2 -> w.words.size();
            case 3 -> w.kinds.size();
            case 4 -> showings.size();
            case 5 -> theirs.size();
            case 6 -> (images[0] == null ? 0 : 1) + (images[1] == null ? 0 : 1);
            case 7 -> tape.length();
            case 8 -> sheets[0] == null ? NONE : java.lang.reflect.Array.getLength(sheets[0]);
            default -> BAD;
        };
    }
}
