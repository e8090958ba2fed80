/** First words to strangers: what kinds of strangers think behind showings of things with sounds. */
public final class FirstWords {
    public static final int BAD = -1, STATE = -2, FULL = -3, NONE = -4;

    private static final int MAX_THINGS = 8, MAX_MEANINGS = 12, MAX_SOUNDS = 4, MAX_KINDS = 6;
    private static final int ALL_MARKS = 255, MAX_MARKS = 8, MAX_CHANCE = 9;
    private static final int PLAIN = 0, LAST = 1, CAREFUL = 2, PROUD = 3;
    private static final int MAX_SHOWINGS = 24, MAX_THEIRS = 12, MAX_IMAGES = 2;
    private static final int MAX_ROW = 5, MAX_ROW_IN_ORDER = 3;
    private static final int MAX_TAPE = 400, MAX_FIGURES = 2, BYTES_OF_A_FEED = 8;
    private static final int MAX_SHEETS = 4, LANES = 3, MAX_CELLS = 40, MAX_READ = 13, CELLS_OF_A_SHOWING = 3;
    private static final int FAULT_NULL = 1, FAULT_INDEX = 2, FAULT_CAST = 3, FAULT_SIZE = 4;

    private final Tape tape;
    private Told told;
    /** What a text tells while it is read: it takes the place of told when the text is taken. */
    private Told draft;
    private final Scene now;
    private final Scene[] images;
    private final Minds minds;
    /** For what would be thought behind showings that are not made. */
    private final Minds trial;
    private final Tutor tutor;
    private final Sheets sheets;
    private int tornBy;

    public FirstWords() {
        tape = new Tape();
        told = new Told();
        draft = new Told();
        now = new Scene();
        images = new Scene[MAX_IMAGES];
        for (int i = 0; i < MAX_IMAGES; i++) {
            images[i] = new Scene();
        }
        minds = new Minds();
        trial = new Minds();
        tutor = new Tutor();
        sheets = new Sheets();
    }

    // ---- the text

    public int feed(long v) {
        if (tape.length > MAX_TAPE - BYTES_OF_A_FEED) {
            return FULL;
        }
        for (int i = BYTES_OF_A_FEED - 1; i >= 0; i--) {
            tape.put((int) (v >>> 8 * i) & 255);
        }
        return tape.length;
    }

    public int end(int n) {
        if (n < 0 || n > tape.length) {
            return BAD;
        }
        int had = tape.length;
        tape.length = n;
        return had;
    }

    public int text() {
        boolean taken = tape.readInto(draft);
        tape.length = 0;
        if (!taken) {
            return -10 - tape.place;
        }
        Told before = told;
        told = draft;
        draft = before;
        for (int i = 0; i < MAX_IMAGES; i++) {
            images[i].isKept = false;
        }
        now.empty(told);
        minds.blank(told);
        return tape.lines;
    }

    public int fault() {
        return tape.fault;
    }

    public int thing(int t) {
        return told.hasThing(t) ? told.marks[t] : BAD;
    }

    public int meaning(int m, int what) {
        if (!told.hasMeaning(m)) {
            return BAD;
        }
        switch (what) {
            case 0: return told.has[m];
            case 1: return told.hasNot[m];
            case 2: return told.asks[m];
            case 3: return told.are[m];
            case 4: return told.kindsThatCan(m);
            default: return BAD;
        }
    }

    public int word(int s) {
        return told.hasSound(s) ? told.target[s] : BAD;
    }

    public int kind(int k, int what) {
        if (!told.hasKind(k)) {
            return BAD;
        }
        switch (what) {
            case 0: return told.sort[k];
            case 1: return told.sees[k];
            case 2: return told.fears[k];
            case 3: return told.unlike[k] ? 1 : 0;
            case 4: return told.chance[k];
            case 5: return told.can[k];
            default: return BAD;
        }
    }

    // ---- showings

    public int show(int s, int t, boolean so) {
        if (!told.hasSound(s) || !told.hasThing(t)) {
            return BAD;
        }
        if (now.showings >= MAX_SHOWINGS) {
            return FULL;
        }
        takeShowing(s, t, so);
        return now.showings;
    }

    public int teach(int s, int t) {
        return show(s, t, told.isTarget(s, t));
    }

    public int undo() {
        if (now.showings <= 0) {
            return NONE;
        }
        now.showings--;
        thinkAgain();
        return now.showings;
    }

    public int clear() {
        int were = now.showings;
        now.showings = 0;
        now.left = told.allKinds();
        thinkAgain();
        return were;
    }

    public int shown(int i, int what) {
        if (i < 0 || i >= now.showings || i >= MAX_SHOWINGS) {
            return BAD;
        }
        switch (what) {
            case 0: return now.sound[i];
            case 1: return now.thing[i];
            case 2: return now.so[i] ? 1 : 0;
            default: return BAD;
        }
    }

    public int thinks(int k, int s) {
        return told.hasKind(k) && told.hasSound(s) ? minds.thoughtOf(k, s) : BAD;
    }

    public int fits(int k, int s) {
        return told.hasKind(k) && told.hasSound(s) ? minds.fit[s] & told.can[k] : BAD;
    }

    public int same(int k, int s) {
        if (!told.hasKind(k) || !told.hasSound(s)) {
            return BAD;
        }
        return minds.isSame(told, k, s) ? 1 : 0;
    }

    public int fled(int k) {
        return told.hasKind(k) ? minds.fledAt[k] : BAD;
    }

    public int against(int k, int s) {
        return told.hasKind(k) && told.hasSound(s) ? minds.wrong[k * MAX_SOUNDS + s] : BAD;
    }

    public int common(int kinds) {
        if (!told.areKinds(kinds)) {
            return BAD;
        }
        int sounds = 0;
        for (int s = 0; s < told.sounds; s++) {
            if (minds.isSameForAll(told, kinds, s)) {
                sounds |= 1 << s;
            }
        }
        return sounds;
    }

    // ---- the fewest

    public int teaching(int kinds, int s, int what) {
        if (!told.areKinds(kinds) || !told.hasSound(s)) {
            return BAD;
        }
        int i = what - 10;
        if (what != 0 && (what < 10 || i >= MAX_ROW)) {
            return BAD;
        }
        boolean found = tutor.findRow(told, minds, kinds, s, MAX_ROW);
        if (what == 0) {
            return found ? tutor.length : NONE;
        }
        return found && i < tutor.length ? tutor.row[i] : BAD;
    }

    public int never(int k, int s) {
        if (!told.hasKind(k) || !told.hasSound(s)) {
            return BAD;
        }
        return (told.can[k] & told.likeTarget(s)) == 0 ? 1 : 0;
    }

    public int order(int kinds, int what) {
        if (!told.areKinds(kinds)) {
            return BAD;
        }
        int i = what - 10;
        if (what != 0 && (what < 10 || i >= told.sounds)) {
            return BAD;
        }
        tutor.forgetOrder(told);
        Tutor.tryOrders(tutor, told, kinds, 0, 0, 0);
        if (!tutor.hasOrder()) {
            return NONE;
        }
        return what == 0 ? tutor.bestTotal : tutor.bestOrder[i];
    }

    public int first(int s, int what) {
        if (!told.hasSound(s) || what < 0 || what > 2) {
            return BAD;
        }
        int feared = told.fearedBy(told.kindsWithChance());
        int best = NONE;
        int most = -1;
        for (int t = 0; t < told.things; t++) {
            if (!isIn(t, feared)) {
                int chance = chanceOfFirst(s, t);
                if (chance > most) {
                    most = chance;
                    best = t;
                }
            }
        }
        int all = told.chances(told.allKinds());
        if (best == NONE || all == 0) {
            return NONE;
        }
        return what == 0 ? best : ofLowestTerms(most, all, what == 2);
    }

    public int fears(int what) {
        switch (what) {
            case 0: return told.fearedBy(told.kindsWithChance());
            case 1: return told.allThings() & ~told.fearedBy(told.allKinds());
            default: return BAD;
        }
    }

    // ---- what comes back

    public int answer(int k, int s, int t) {
        if (!told.hasKind(k) || !told.hasSound(s) || !told.hasThing(t)) {
            return BAD;
        }
        return minds.answerOf(told, k, s, t);
    }

    public int heard(int s, int t, int answer) {
        if (!told.hasSound(s) || !told.hasThing(t)) {
            return BAD;
        }
        if (answer != 0 && answer != 1 && answer != NONE) {
            return BAD;
        }
        now.left &= minds.kindsThatAnswer(told, s, t, answer);
        return now.left;
    }

    public int left(int what) {
        switch (what) {
            case 0: return now.left;
            case 1: return told.chances(now.left);
            case 2: return told.chances(told.allKinds());
            default: return BAD;
        }
    }

    public int ask(int what) {
        if (what < 0 || what > 2) {
            return BAD;
        }
        if (now.left == 0) {
            return NONE;
        }
        int sound = NONE;
        int thing = NONE;
        int least = NONE;
        for (int s = 0; s < told.sounds; s++) {
            for (int t = 0; t < told.things; t++) {
                int chance = greatestLeft(s, t);
                if (least == NONE || chance < least) {
                    least = chance;
                    sound = s;
                    thing = t;
                }
            }
        }
        return what == 0 ? sound : what == 1 ? thing : least;
    }

    public int sure(int s, int what) {
        if (!told.hasSound(s) || what < 0 || what > 1) {
            return BAD;
        }
        int best = told.allThings();
        for (int tests = 0; tests < 1 << told.things; tests++) {
            if (Integer.bitCount(tests) < Integer.bitCount(best) && areSure(s, tests)) {
                best = tests;
            }
        }
        return what == 0 ? Integer.bitCount(best) : best;
    }

    public int likely(int s, int what) {
        if (!told.hasSound(s) || what < 0 || what > 1) {
            return BAD;
        }
        int all = told.chances(told.allKinds());
        if (all == 0) {
            return NONE;
        }
        return ofLowestTerms(minds.chanceOfSame(told, s), all, what == 1);
    }

    // ---- their sound

    public int theirs(int t, boolean so) {
        if (!told.hasThing(t)) {
            return BAD;
        }
        if (now.theirs >= MAX_THEIRS) {
            return FULL;
        }
        now.theirThing[now.theirs] = t;
        now.theirSo[now.theirs] = so;
        now.theirs++;
        return now.theirs;
    }

    public int hush() {
        int were = now.theirs;
        now.theirs = 0;
        return were;
    }

    public int meant(int what) {
        int these = fittingTheirs();
        switch (what) {
            case 0: return Integer.bitCount(these);
            case 1: return told.plainest(these);
            case 2: return these;
            case 3: return these == 0 ? NONE : mostTelling(these);
            default: return BAD;
        }
    }

    public int build(int m, int what) {
        if (!told.hasMeaning(m) || what < 0 || what > 2) {
            return BAD;
        }
        for (int way = 1; way <= 3; way++) {
            for (int one = 0; one < told.sounds; one++) {
                int other = otherSound(told.are[m], way, one);
                if (other != BAD) {
                    return what == 0 ? way : what == 1 ? one : other;
                }
            }
        }
        return NONE;
    }

    public int draw(int seed) {
        int all = told.chances(told.allKinds());
        if (all <= 0) {
            return NONE;
        }
        int drawn = ((seed * 1103515245 + 12345) >>> 16 & 32767) % all;
        for (int k = 0; k < told.kinds; k++) {
            drawn -= told.chance[k];
            if (drawn < 0) {
                return k;
            }
        }
        return NONE;
    }

    // ---- images, sheets

    public int keep(int i) {
        if (i < 0 || i >= MAX_IMAGES) {
            return BAD;
        }
        int was = images[i].isKept ? 1 : 0;
        images[i].become(now);
        images[i].isKept = true;
        return was;
    }

    public int back(int i) {
        if (i < 0 || i >= MAX_IMAGES) {
            return BAD;
        }
        if (!images[i].isKept) {
            return STATE;
        }
        now.become(images[i]);
        thinkAgain();
        return now.showings;
    }

    public int sheet(int k, int lane, int n) {
        if (k < 0 || k >= MAX_SHEETS || lane < 0 || lane >= LANES || n > MAX_CELLS) {
            return BAD;
        }
        if (n < 0) {
            return -10 - FAULT_SIZE;
        }
        sheets.renew(k, lane, n);
        return 1;
    }

    public int lay(int k, int i, int v) {
        if (k < 0 || k >= MAX_SHEETS) {
            return BAD;
        }
        int refusal = sheets.write(k, i, v);
        return refusal == 0 ? 1 : -10 - refusal;
    }

    public int read(int k, int lane, int f, int n) {
        if (k < 0 || k >= MAX_SHEETS || lane < 0 || lane >= LANES || n < 0 || n > MAX_READ) {
            return BAD;
        }
        int refusal = n == 0 ? 0 : sheets.refusal(k, lane);
        int whole = refusal == 0 ? sheets.wholeShowings(k, f, n) : 0;
        int wrong = firstWrongRead(k, f, whole);
        if (wrong != 0) {
            return wrong;
        }
        for (int i = 0; i < whole; i++) {
            int c = f + CELLS_OF_A_SHOWING * i;
            takeShowing(sheets.cell(k, c), sheets.cell(k, c + 1), sheets.cell(k, c + 2) == 1);
        }
        tornBy = refusal != 0 ? refusal : whole < n ? FAULT_INDEX : 0;
        return whole;
    }

    public int torn() {
        return tornBy;
    }

    public int count(int what) {
        switch (what) {
            case 0: return told.things;
            case 1: return told.meanings;
            case 2: return told.sounds;
            case 3: return told.kinds;
            case 4: return now.showings;
            case 5: return now.theirs;
            case 6: return imagesKept();
            case 7: return tape.length;
            case 8: return sheets.size[0];
            default: return BAD;
        }
    }

    // ---- helpers of the calls

    private static boolean isIn(int i, int bits) {
        return i >= 0 && i < 31 && (bits >> i & 1) == 1;
    }

    private static int ofLowestTerms(int numerator, int denominator, boolean lower) {
        int a = denominator;
        int b = numerator;
        for (int i = 0; i < 64 && b != 0; i++) {
            int rest = a % b;
            a = b;
            b = rest;
        }
        if (a == 0) {
            return 0;
        }
        return lower ? denominator / a : numerator / a;
    }

    private void takeShowing(int s, int t, boolean so) {
        int i = now.showings;
        if (i < 0 || i >= MAX_SHOWINGS) {
            return;
        }
        now.sound[i] = s;
        now.thing[i] = t;
        now.so[i] = so;
        now.showings++;
        minds.witness(told, told.allKinds(), s, t, so);
    }

    /** What is thought follows from the showings alone, so they are gone through anew. */
    private void thinkAgain() {
        minds.blank(told);
        for (int i = 0; i < now.showings && i < MAX_SHOWINGS; i++) {
            minds.witness(told, told.allKinds(), now.sound[i], now.thing[i], now.so[i]);
        }
    }

    private int chanceOfFirst(int s, int t) {
        trial.blank(told);
        trial.witness(told, told.allKinds(), s, t, told.isTarget(s, t));
        return trial.chanceOfSame(told, s);
    }

    private int greatestLeft(int s, int t) {
        int yes = told.chances(now.left & minds.kindsThatAnswer(told, s, t, 1));
        int no = told.chances(now.left & minds.kindsThatAnswer(told, s, t, 0));
        int none = told.chances(now.left & minds.kindsThatAnswer(told, s, t, NONE));
        return Math.max(yes, Math.max(no, none));
    }

    private boolean areSure(int s, int tests) {
        int wanted = told.targetThings(s);
        for (int m = 0; m < told.meanings; m++) {
            boolean isOther = told.are[m] != wanted && told.kindsThatCan(m) != 0;
            if (isOther && ((told.are[m] ^ wanted) & tests) == 0) {
                return false;
            }
        }
        return true;
    }

    private int fittingTheirs() {
        int these = told.allMeanings();
        for (int i = 0; i < now.theirs && i < MAX_THEIRS; i++) {
            these &= told.fitting(now.theirThing[i], now.theirSo[i]);
        }
        return these;
    }

    /** Whether it is so or not, at least the fewer of both sides go. */
    private int mostTelling(int these) {
        int best = NONE;
        int most = -1;
        for (int t = 0; t < told.things; t++) {
            int goIfSo = Integer.bitCount(these & ~told.isIt[t]);
            int goIfNot = Integer.bitCount(these & told.isIt[t]);
            int sureToGo = Math.min(goIfSo, goIfNot);
            if (sureToGo > most) {
                most = sureToGo;
                best = t;
            }
        }
        return best;
    }

    /** The second sound by which a way of building does, NONE where the way needs none, BAD where none does. */
    private int otherSound(int things, int way, int one) {
        int ofOne = told.targetThings(one);
        if (way == 1) {
            return ofOne == things ? NONE : BAD;
        }
        for (int other = 0; other < told.sounds; other++) {
            int ofOther = told.targetThings(other);
            int built = way == 2 ? ofOne & ofOther : ofOne & ~ofOther;
            if (other != one && built == things) {
                return other;
            }
        }
        return BAD;
    }

    /** What refuses a reading of whole showings: 0 for nothing. */
    private int firstWrongRead(int k, int f, int whole) {
        for (int i = 0; i < whole; i++) {
            int c = f + CELLS_OF_A_SHOWING * i;
            int so = sheets.cell(k, c + 2);
            boolean isTold = told.hasSound(sheets.cell(k, c)) && told.hasThing(sheets.cell(k, c + 1));
            if (!isTold || so != 0 && so != 1) {
                return -20 - i;
            }
            if (now.showings + i >= MAX_SHOWINGS) {
                return FULL;
            }
        }
        return 0;
    }

    private int imagesKept() {
        int kept = 0;
        for (int i = 0; i < MAX_IMAGES; i++) {
            if (images[i].isKept) {
                kept++;
            }
        }
        return kept;
    }

    /** All that a text tells, and what follows from it alone. Sets are held as bits. */
    static final class Told {
        int things, meanings, sounds, kinds;
        final int[] marks = new int[MAX_THINGS];
        /** The meanings that each thing is. */
        final int[] isIt = new int[MAX_THINGS];
        final int[] has = new int[MAX_MEANINGS];
        final int[] hasNot = new int[MAX_MEANINGS];
        final int[] asks = new int[MAX_MEANINGS];
        /** The things that are each meaning. */
        final int[] are = new int[MAX_MEANINGS];
        /** The meanings that just the same things are. */
        final int[] alike = new int[MAX_MEANINGS];
        final int[] fromPlainest = new int[MAX_MEANINGS];
        final int[] target = new int[MAX_SOUNDS];
        final int[] sort = new int[MAX_KINDS];
        final int[] sees = new int[MAX_KINDS];
        final int[] fears = new int[MAX_KINDS];
        final boolean[] unlike = new boolean[MAX_KINDS];
        final int[] chance = new int[MAX_KINDS];
        final int[] can = new int[MAX_KINDS];

        void empty() {
            things = 0;
            meanings = 0;
            sounds = 0;
            kinds = 0;
        }

        void addThing(int itsMarks) {
            if (things < MAX_THINGS) {
                marks[things] = itsMarks;
                things++;
            }
        }

        void addMeaning(int marksThatItHas, int marksThatItHasNot) {
            if (meanings < MAX_MEANINGS) {
                has[meanings] = marksThatItHas;
                hasNot[meanings] = marksThatItHasNot;
                asks[meanings] = Integer.bitCount(marksThatItHas | marksThatItHasNot);
                meanings++;
            }
        }

        void addSound(int itsTarget) {
            if (sounds < MAX_SOUNDS) {
                target[sounds] = itsTarget;
                sounds++;
            }
        }

        void addKind(int itsSort) {
            if (kinds < MAX_KINDS) {
                sort[kinds] = itsSort;
                sees[kinds] = ALL_MARKS;
                fears[kinds] = NONE;
                unlike[kinds] = false;
                chance[kinds] = 1;
                kinds++;
            }
        }

        /** Finds what follows from that which was told; wanted once a text is taken. */
        void settle() {
            for (int t = 0; t < things; t++) {
                isIt[t] = 0;
            }
            for (int m = 0; m < meanings; m++) {
                are[m] = 0;
                for (int t = 0; t < things; t++) {
                    if ((marks[t] & has[m]) == has[m] && (marks[t] & hasNot[m]) == 0) {
                        are[m] |= 1 << t;
                        isIt[t] |= 1 << m;
                    }
                }
            }
            for (int k = 0; k < kinds; k++) {
                can[k] = 0;
                for (int m = 0; m < meanings; m++) {
                    if (((has[m] | hasNot[m]) & ~sees[k]) == 0) {
                        can[k] |= 1 << m;
                    }
                }
            }
            settleMeanings();
        }

        private void settleMeanings() {
            for (int m = 0; m < meanings; m++) {
                alike[m] = 0;
                for (int other = 0; other < meanings; other++) {
                    if (are[m] == are[other]) {
                        alike[m] |= 1 << other;
                    }
                }
            }
            int placed = 0;
            for (int marksAsked = 0; marksAsked <= MAX_MARKS; marksAsked++) {
                for (int m = 0; m < meanings; m++) {
                    if (asks[m] == marksAsked && placed < MAX_MEANINGS) {
                        fromPlainest[placed] = m;
                        placed++;
                    }
                }
            }
        }

        boolean hasThing(int t) {
            return t >= 0 && t < things;
        }

        boolean hasMeaning(int m) {
            return m >= 0 && m < meanings;
        }

        boolean hasSound(int s) {
            return s >= 0 && s < sounds;
        }

        boolean hasKind(int k) {
            return k >= 0 && k < kinds;
        }

        boolean areKinds(int bits) {
            return bits >= 0 && bits < 1 << kinds;
        }

        int allThings() {
            return (1 << things) - 1;
        }

        int allMeanings() {
            return (1 << meanings) - 1;
        }

        int allKinds() {
            return (1 << kinds) - 1;
        }

        int plainest(int these) {
            for (int i = 0; i < meanings; i++) {
                if (isIn(fromPlainest[i], these)) {
                    return fromPlainest[i];
                }
            }
            return NONE;
        }

        /** The meanings that one showing of a thing lets stand. */
        int fitting(int t, boolean so) {
            if (!hasThing(t)) {
                return 0;
            }
            return so ? isIt[t] : allMeanings() & ~isIt[t];
        }

        int targetThings(int s) {
            return hasSound(s) && hasMeaning(target[s]) ? are[target[s]] : 0;
        }

        int likeTarget(int s) {
            return hasSound(s) && hasMeaning(target[s]) ? alike[target[s]] : 0;
        }

        boolean isTarget(int s, int t) {
            return isIn(t, targetThings(s));
        }

        int kindsThatCan(int m) {
            int these = 0;
            for (int k = 0; k < kinds; k++) {
                if (isIn(m, can[k])) {
                    these |= 1 << k;
                }
            }
            return these;
        }

        int kindsWithChance() {
            int these = 0;
            for (int k = 0; k < kinds; k++) {
                if (chance[k] > 0) {
                    these |= 1 << k;
                }
            }
            return these;
        }

        int chances(int kindsOfThem) {
            int sum = 0;
            for (int k = 0; k < kinds; k++) {
                if (isIn(k, kindsOfThem)) {
                    sum += chance[k];
                }
            }
            return sum;
        }

        int fearedBy(int kindsOfThem) {
            int these = 0;
            for (int k = 0; k < kinds; k++) {
                if (isIn(k, kindsOfThem) && hasThing(fears[k])) {
                    these |= 1 << fears[k];
                }
            }
            return these;
        }
    }

    /** The bytes fed, and the reading of them as a text. */
    static final class Tape {
        private static final int END = 0, NAME = 1, NUMBER = 2, SEMICOLON = 3, DASH = 4, NO_TOKEN = 5;
        private static final int SEES = 1, FEARS = 2, UNLIKE = 3, CHANCE = 4;

        final int[] bytes = new int[MAX_TAPE];
        int length;
        int fault;
        int place;
        int lines;
        private int at;
        private int token;
        private int start;
        private int stop;

        void put(int b) {
            if (length >= 0 && length < MAX_TAPE) {
                bytes[length] = b;
                length++;
            }
        }

        boolean readInto(Told into) {
            into.empty();
            fault = 0;
            place = 0;
            lines = 0;
            at = 0;
            nextToken();
            for (int i = 0; i < MAX_TAPE && fault == 0 && token != END; i++) {
                readLine(into);
                lines++;
            }
            if (fault == 0) {
                into.settle();
            }
            return fault == 0;
        }

        private void blame(int itsFault) {
            fault = itsFault;
            place = start;
        }

        private int byteAt(int i) {
            return i >= 0 && i < length && i < MAX_TAPE ? bytes[i] : 0;
        }

        /** The token that a byte begins, or goes on with. */
        private int tokenAt(int i) {
            int b = byteAt(i);
            if (i >= length) {
                return END;
            }
            if (b >= 'a' && b <= 'z') {
                return NAME;
            }
            if (b >= '0' && b <= '9') {
                return NUMBER;
            }
            return b == ';' ? SEMICOLON : b == '-' ? DASH : NO_TOKEN;
        }

        private void nextToken() {
            while (at < length && byteAt(at) == ' ') {
                at++;
            }
            start = at;
            token = tokenAt(at);
            if (token != END) {
                at++;
            }
            while (at < length && (token == NAME || token == NUMBER) && tokenAt(at) == token) {
                at++;
            }
            stop = at;
            if (token == NO_TOKEN || token == NUMBER && stop - start > MAX_FIGURES) {
                blame(1);
            }
        }

        private boolean isNamed(String name) {
            if (token != NAME || name.length() != stop - start) {
                return false;
            }
            for (int i = 0; i < name.length(); i++) {
                if (name.charAt(i) != byteAt(start + i)) {
                    return false;
                }
            }
            return true;
        }

        private void readLine(Told into) {
            int sort = sortNamed();
            if (isNamed("thing")) {
                readThing(into);
            } else if (isNamed("means")) {
                readMeaning(into);
            } else if (isNamed("word")) {
                readWord(into);
            } else if (sort != NONE) {
                readKind(into, sort);
            } else {
                blame(2);
            }
            if (fault == 0 && token != SEMICOLON) {
                blame(2);
            }
            if (fault == 0) {
                nextToken();
            }
        }

        private int sortNamed() {
            return isNamed("plain") ? PLAIN : isNamed("last") ? LAST
                : isNamed("careful") ? CAREFUL : isNamed("proud") ? PROUD : NONE;
        }

        private void readThing(Told into) {
            if (into.things >= MAX_THINGS) {
                blame(5);
                return;
            }
            nextToken();
            into.addThing(takeLetters(0));
        }

        private void readMeaning(Told into) {
            if (into.meanings >= MAX_MEANINGS) {
                blame(5);
                return;
            }
            nextToken();
            int has = takeLetters(0);
            int hasNot = 0;
            if (fault == 0 && isNamed("not")) {
                nextToken();
                hasNot = takeLetters(has);
            }
            into.addMeaning(has, hasNot);
        }

        private void readWord(Told into) {
            if (into.sounds >= MAX_SOUNDS) {
                blame(5);
                return;
            }
            nextToken();
            into.addSound(takeNumber(into.meanings));
        }

        private void readKind(Told into, int sort) {
            if (into.kinds >= MAX_KINDS) {
                blame(5);
                return;
            }
            int k = into.kinds;
            into.addKind(sort);
            nextToken();
            int used = 0;
            for (int i = 0; i < MAX_TAPE && fault == 0 && token == NAME; i++) {
                int with = withNamed();
                if (with == NONE || isIn(with, used)) {
                    blame(with == NONE ? 2 : 4);
                    return;
                }
                used |= 1 << with;
                nextToken();
                if (with == SEES) {
                    into.sees[k] = takeLetters(0);
                } else if (with == FEARS) {
                    into.fears[k] = takeNumber(into.things);
                } else if (with == CHANCE) {
                    into.chance[k] = takeNumber(MAX_CHANCE + 1);
                } else {
                    into.unlike[k] = true;
                }
            }
        }

        private int withNamed() {
            return isNamed("sees") ? SEES : isNamed("fears") ? FEARS
                : isNamed("unlike") ? UNLIKE : isNamed("chance") ? CHANCE : NONE;
        }

        /** Letters of a token that has none of those forbidden; what it answers by a fault is not used. */
        private int takeLetters(int forbidden) {
            if (fault != 0) {
                return 0;
            }
            if (token != NAME && token != DASH) {
                blame(2);
                return 0;
            }
            int letters = 0;
            for (int i = start; i < stop && token == NAME; i++) {
                int letter = byteAt(i) - 'a';
                if (letter >= MAX_MARKS || isIn(letter, letters | forbidden)) {
                    blame(3);
                    return 0;
                }
                letters |= 1 << letter;
            }
            nextToken();
            return letters;
        }

        /** A number below a bound; what it answers by a fault is not used. */
        private int takeNumber(int bound) {
            if (fault != 0) {
                return 0;
            }
            if (token != NUMBER) {
                blame(2);
                return 0;
            }
            int number = 0;
            for (int i = start; i < stop; i++) {
                number = number * 10 + byteAt(i) - '0';
            }
            if (number >= bound) {
                blame(3);
                return 0;
            }
            nextToken();
            return number;
        }
    }

    /** All that an image keeps: showings, the kinds that are left, their sound. */
    static final class Scene {
        int showings;
        final int[] sound = new int[MAX_SHOWINGS];
        final int[] thing = new int[MAX_SHOWINGS];
        final boolean[] so = new boolean[MAX_SHOWINGS];
        int left;
        int theirs;
        final int[] theirThing = new int[MAX_THEIRS];
        final boolean[] theirSo = new boolean[MAX_THEIRS];
        boolean isKept;

        void empty(Told told) {
            showings = 0;
            theirs = 0;
            left = told.allKinds();
        }

        void become(Scene other) {
            showings = other.showings;
            left = other.left;
            theirs = other.theirs;
            System.arraycopy(other.sound, 0, sound, 0, MAX_SHOWINGS);
            System.arraycopy(other.thing, 0, thing, 0, MAX_SHOWINGS);
            System.arraycopy(other.theirThing, 0, theirThing, 0, MAX_THEIRS);
            // Rows of numbers alone are copied by the library.
            for (int i = 0; i < MAX_SHOWINGS; i++) {
                so[i] = other.so[i];
            }
            for (int i = 0; i < MAX_THEIRS; i++) {
                theirSo[i] = other.theirSo[i];
            }
        }
    }

    /** What kinds think behind some showings. */
    static final class Minds {
        int seen;
        /** The meaning thought of each sound (k * MAX_SOUNDS + s), or NONE. */
        final int[] thought = new int[MAX_KINDS * MAX_SOUNDS];
        /** How often a proud kind has been wrong of each sound, as far as it counts. */
        final int[] wrong = new int[MAX_KINDS * MAX_SOUNDS];
        final int[] latest = new int[MAX_KINDS];
        final int[] fledAt = new int[MAX_KINDS];
        /** The meanings that fit each sound. */
        final int[] fit = new int[MAX_SOUNDS];

        void blank(Told told) {
            seen = 0;
            for (int i = 0; i < MAX_KINDS * MAX_SOUNDS; i++) {
                thought[i] = NONE;
                wrong[i] = 0;
            }
            for (int k = 0; k < MAX_KINDS; k++) {
                latest[k] = NONE;
                fledAt[k] = NONE;
            }
            for (int s = 0; s < MAX_SOUNDS; s++) {
                fit[s] = told.allMeanings();
            }
        }

        void become(Minds other) {
            seen = other.seen;
            System.arraycopy(other.thought, 0, thought, 0, MAX_KINDS * MAX_SOUNDS);
            System.arraycopy(other.wrong, 0, wrong, 0, MAX_KINDS * MAX_SOUNDS);
            System.arraycopy(other.latest, 0, latest, 0, MAX_KINDS);
            System.arraycopy(other.fledAt, 0, fledAt, 0, MAX_KINDS);
            System.arraycopy(other.fit, 0, fit, 0, MAX_SOUNDS);
        }

        /** Some kinds see a showing: whether that changed anything of what they will ever think. */
        boolean witness(Told told, int kinds, int s, int t, boolean so) {
            if (!told.hasSound(s) || !told.hasThing(t)) {
                return false;
            }
            int before = fit[s];
            fit[s] &= told.fitting(t, so);
            boolean changed = fit[s] != before;
            for (int k = 0; k < told.kinds; k++) {
                if (!isIn(k, kinds) || fledAt[k] != NONE) {
                    continue;
                }
                if (told.fears[k] == t) {
                    frighten(k);
                    changed = true;
                } else if (look(told, k, s, t, so)) {
                    changed = true;
                }
            }
            seen++;
            return changed;
        }

        private void frighten(int k) {
            fledAt[k] = seen;
            for (int s = 0; s < MAX_SOUNDS; s++) {
                thought[k * MAX_SOUNDS + s] = NONE;
                wrong[k * MAX_SOUNDS + s] = 0;
            }
        }

        private boolean look(Told told, int k, int s, int t, boolean so) {
            int i = k * MAX_SOUNDS + s;
            int hadThought = thought[i];
            int wasWrong = wrong[i];
            int hadLatest = latest[k];
            int these = choices(told, k, s);
            int plainest = told.plainest(these);
            switch (told.sort[k]) {
                case LAST:
                    thought[i] = isIn(latest[k], these) ? latest[k] : plainest;
                    break;
                case CAREFUL:
                    thought[i] = plainest != NONE && (these & ~told.alike[plainest]) == 0 ? plainest : NONE;
                    break;
                case PROUD:
                    holdOrTurn(i, plainest, isIn(thought[i], told.fitting(t, so)));
                    break;
                default:
                    thought[i] = plainest;
                    break;
            }
            if (thought[i] != NONE) {
                latest[k] = thought[i];
            }
            return thought[i] != hadThought || wrong[i] != wasWrong || latest[k] != hadLatest;
        }

        private void holdOrTurn(int i, int plainest, boolean isBorneOut) {
            boolean holds = thought[i] != NONE;
            if (holds && !isBorneOut) {
                wrong[i]++;
            }
            if (!holds || wrong[i] >= 2) {
                thought[i] = plainest;
                wrong[i] = 0;
            }
        }

        /** The meanings that a kind looks at for a sound. */
        int choices(Told told, int k, int s) {
            int these = fit[s] & told.can[k];
            for (int other = 0; other < told.sounds && told.unlike[k]; other++) {
                int taken = thoughtOf(k, other);
                if (other != s && taken != NONE) {
                    these &= ~(1 << taken);
                }
            }
            return these;
        }

        int thoughtOf(int k, int s) {
            int i = k * MAX_SOUNDS + s;
            return i >= 0 && i < MAX_KINDS * MAX_SOUNDS ? thought[i] : NONE;
        }

        boolean isSame(Told told, int k, int s) {
            return isIn(thoughtOf(k, s), told.likeTarget(s));
        }

        boolean isSameForAll(Told told, int kinds, int s) {
            for (int k = 0; k < told.kinds; k++) {
                if (isIn(k, kinds) && !isSame(told, k, s)) {
                    return false;
                }
            }
            return true;
        }

        int chanceOfSame(Told told, int s) {
            int sum = 0;
            for (int k = 0; k < told.kinds; k++) {
                if (isSame(told, k, s)) {
                    sum += told.chance[k];
                }
            }
            return sum;
        }

        int answerOf(Told told, int k, int s, int t) {
            int m = thoughtOf(k, s);
            if (!told.hasMeaning(m)) {
                return NONE;
            }
            return isIn(t, told.are[m]) ? 1 : 0;
        }

        int kindsThatAnswer(Told told, int s, int t, int answer) {
            int these = 0;
            for (int k = 0; k < told.kinds; k++) {
                if (answerOf(told, k, s, t) == answer) {
                    these |= 1 << k;
                }
            }
            return these;
        }
    }

    /** The search for the fewest showings. */
    static final class Tutor {
        private static final int NOT_YET = 1000;

        /** The row that was found, and how many showings it has. */
        final int[] row = new int[MAX_ROW];
        int length;
        /** The order that was found, and how many showings it takes. */
        final int[] bestOrder = new int[MAX_SOUNDS];
        int bestTotal;
        private final int[] tried = new int[MAX_SOUNDS];
        private final Minds[] alongRow = new Minds[MAX_ROW + 1];
        private final Minds[] alongOrder = new Minds[MAX_SOUNDS + 1];
        private int kinds;
        private int sound;
        private int worth;

        Tutor() {
            for (int i = 0; i <= MAX_ROW; i++) {
                alongRow[i] = new Minds();
            }
            for (int i = 0; i <= MAX_SOUNDS; i++) {
                alongOrder[i] = new Minds();
            }
        }

        boolean findRow(Told told, Minds from, int toKinds, int s, int most) {
            if (isHopeless(told, from, toKinds, s)) {
                return false;
            }
            kinds = toKinds;
            sound = s;
            worth = thingsWorthShowing(told, toKinds);
            alongRow[0].become(from);
            for (int n = 0; n <= most && n <= MAX_ROW; n++) {
                length = n;
                if (reaches(this, told, 0)) {
                    return true;
                }
            }
            return false;
        }

        /**
         * True showings never take away a meaning like the target, nor ever give one back:
         * a kind that has none among those that it looks at will not think one.
         */
        private static boolean isHopeless(Told told, Minds from, int kinds, int s) {
            for (int k = 0; k < told.kinds; k++) {
                if (!isIn(k, kinds)) {
                    continue;
                }
                boolean mayBeSame = from.isSame(told, k, s) || (from.choices(told, k, s) & told.likeTarget(s)) != 0;
                if (from.fledAt[k] != NONE || !mayBeSame) {
                    return true;
                }
            }
            return false;
        }

        /** Of things that tell all kinds just the same, the least is enough: a row with it is the first. */
        private static int thingsWorthShowing(Told told, int kinds) {
            int feared = told.fearedBy(kinds);
            int worth = 0;
            for (int t = 0; t < told.things; t++) {
                boolean isNew = !isIn(t, feared);
                for (int lesser = 0; lesser < t; lesser++) {
                    if (isIn(lesser, worth) && told.isIt[lesser] == told.isIt[t]) {
                        isNew = false;
                    }
                }
                if (isNew) {
                    worth |= 1 << t;
                }
            }
            return worth;
        }

        private static boolean reaches(Tutor x, Told told, int depth) {
            if (depth >= x.length || depth >= MAX_ROW) {
                return x.alongRow[depth].isSameForAll(told, x.kinds, x.sound);
            }
            for (int t = 0; t < told.things; t++) {
                if (!isIn(t, x.worth)) {
                    continue;
                }
                Minds next = x.alongRow[depth + 1];
                next.become(x.alongRow[depth]);
                x.row[depth] = t;
                // A showing that changes nothing is in no fewest row: without it the row does as well.
                if (next.witness(told, x.kinds, x.sound, t, told.isTarget(x.sound, t)) && reaches(x, told, depth + 1)) {
                    return true;
                }
            }
            return false;
        }

        void forgetOrder(Told told) {
            bestTotal = NOT_YET;
            alongOrder[0].blank(told);
        }

        boolean hasOrder() {
            return bestTotal != NOT_YET;
        }

        private static void tryOrders(Tutor x, Told told, int kinds, int placed, int used, int total) {
            if (placed >= told.sounds || placed >= MAX_SOUNDS) {
                x.bestTotal = total;
                System.arraycopy(x.tried, 0, x.bestOrder, 0, MAX_SOUNDS);
                return;
            }
            for (int s = 0; s < told.sounds; s++) {
                if (isIn(s, used) || !x.findRow(told, x.alongOrder[placed], kinds, s, MAX_ROW_IN_ORDER)) {
                    continue;
                }
                int sum = total + x.length;
                if (sum < x.bestTotal) {
                    x.alongOrder[placed + 1].become(x.alongRow[x.length]);
                    x.tried[placed] = s;
                    tryOrders(x, told, kinds, placed + 1, used | 1 << s, sum);
                }
            }
        }
    }

    /** Rows of cells, and what the machine would refuse of them. */
    static final class Sheets {
        /** How many cells each sheet has; NONE for nothing. */
        final int[] size = new int[MAX_SHEETS];
        private final int[] laneOf = new int[MAX_SHEETS];
        private final int[][] cells = new int[MAX_SHEETS][MAX_CELLS];

        Sheets() {
            for (int k = 0; k < MAX_SHEETS; k++) {
                size[k] = NONE;
            }
        }

        void renew(int k, int lane, int n) {
            if (k < 0 || k >= MAX_SHEETS || n < 0 || n > MAX_CELLS) {
                return;
            }
            laneOf[k] = lane;
            size[k] = n;
            for (int i = 0; i < MAX_CELLS; i++) {
                cells[k][i] = 0;
            }
        }

        int write(int k, int i, int v) {
            if (k < 0 || k >= MAX_SHEETS || size[k] == NONE) {
                return FAULT_NULL;
            }
            if (i < 0 || i >= size[k] || i >= MAX_CELLS) {
                return FAULT_INDEX;
            }
            cells[k][i] = laneOf[k] == 0 ? (byte) v : laneOf[k] == 1 ? (short) v : v;
            return 0;
        }

        int refusal(int k, int lane) {
            if (k < 0 || k >= MAX_SHEETS || size[k] == NONE) {
                return FAULT_NULL;
            }
            return laneOf[k] == lane ? 0 : FAULT_CAST;
        }

        /** How many of n showings from a cell on lie within a sheet. */
        int wholeShowings(int k, int from, int n) {
            if (k < 0 || k >= MAX_SHEETS || from < 0 || from > size[k]) {
                return 0;
            }
            return Math.min(n, (size[k] - from) / CELLS_OF_A_SHOWING);
        }

        int cell(int k, int i) {
            return k >= 0 && k < MAX_SHEETS && i >= 0 && i < MAX_CELLS ? cells[k][i] : 0;
        }
    }
}
