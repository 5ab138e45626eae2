import java.util.NoSuchElementException;

/** A main text with two comments round it, set on pages, as the document's numbered promises tell. */
public final class RingedPage {
    public static final int NONE = -1;

    private static final int MAIN = 0;
    private static final int INNER = 1;
    private static final int OUTER = 2;
    private static final int TEXTS = 3;
    private static final int MOST_WORDS = 70;
    private static final int MOST_SIZE = 9;
    private static final int MOST_TIES = 12;
    private static final int MOST_DEEP = 6;
    private static final int MOST_SIGNS = 80;
    private static final int MOST_CROWN = 9;
    private static final int LEAST_SHARE = 9;
    private static final int MOST_SHARE = 40;
    private static final int LEAST_MAIN = 9;
    private static final int MOST_STEP = 9;
    private static final int MOST_PAGES = 9;
    private static final int MOST_YEARS = 30;
    private static final int MOST_NEAR = 99;
    private static final int SPARE_SIZE = 5;
    private static final int KEPT = 2;
    private static final int UNDONE = 7;
    private static final int MISSING_SHEET = 3;

    /** A line takes one word at least, so there are never more lines than words. */
    private static final int MOST_LINES = TEXTS * MOST_WORDS;
    /** Crowns times shares of the one times shares of the other: no grid and no climb goes beyond. */
    private static final int MOST_PLANS = 10 * 32 * 32;

    private static final int WIDTH = 0;
    private static final int HEIGHT = 1;
    private static final int GUTTER = 2;
    private static final int MEASURES = 3;
    private static final int[] LEAST_MEASURE = {29, 3, 1};
    private static final int[] MOST_MEASURE = {60, 40, 4};

    private static final int WEIGHTS = 3;
    private static final int[] MOST_WEIGHT = {10000, 10000, 100};

    private static final int[] CROWN_MOVES = {-1, 1, 0, 0, 0, 0};
    private static final int[] INNER_MOVES = {0, 0, -1, 1, 0, 0};
    private static final int[] OUTER_MOVES = {0, 0, 0, 0, -1, 1};
    private static final int MOVES = 6;

    private final Leaf now;
    private final Leaf trial;
    private final Setting setting;
    private final Search search;
    private final Past past;
    private final Leaf[] kept;
    private final boolean[] isKept;
    private final Signs text;
    private final Row told;

    public RingedPage() {
        now = new Leaf();
        trial = new Leaf();
        setting = new Setting();
        search = new Search();
        past = new Past();
        kept = new Leaf[KEPT];
        for (int i = 0; i < KEPT; i++) {
            kept[i] = new Leaf();
        }
        isKept = new boolean[KEPT];
        text = new Signs();
        told = new Row();
    }

    // ---- texts

    public int sign(int v) {
        return text.add(v) ? text.length : NONE;
    }

    public boolean end(int n) {
        return text.cut(n);
    }

    public int words(int which) {
        past.mark(now);
        int answer = isText(which) ? readWords(which) : NONE;
        text.clear();
        return remembered(answer);
    }

    public int ties() {
        past.mark(now);
        int answer = readTies();
        text.clear();
        return remembered(answer);
    }

    public int sheet(int which, int k, int kind, int n, int f, int step) {
        if (!isText(which) || kind < 0 || kind > MISSING_SHEET || n > MOST_WORDS) {
            return NONE;
        }
        if (kind == MISSING_SHEET) {
            return -3;
        }
        if (n < 0) {
            return -2;
        }
        for (int i = 0; i < n; i++) {
            int fault = !now.hasWord(which, k + i) ? 1 : !isSize(entry(kind, f, step, i)) ? 2 : 0;
            if (fault != 0) {
                told.tell(i, fault);
                return -4;
            }
        }
        int changed = 0;
        for (int i = 0; i < n; i++) {
            if (now.setSize(which, k + i, entry(kind, f, step, i))) {
                changed++;
            }
        }
        return changed;
    }

    // ---- as it is set

    public int pages() {
        setting.set(now);
        int pages = setting.pageCount(now);
        told.tell(pages == 0 ? 0 : setting.lines - (pages - 1) * now.height);
        return pages;
    }

    public int part(int page, int line, int which) {
        int place = placeOf(page, line);
        if (place < 0 || !isText(which)) {
            return NONE;
        }
        int taken = setting.takenAt(which, place);
        if (taken == 0) {
            return -2;
        }
        told.tell(setting.first[which][place], setting.width[which][place],
            setting.column[which][place], setting.raggedAt[which][place]);
        return taken;
    }

    public int word(int which, int k, int what) throws NoSuchElementException {
        if (!now.hasWord(which, k) || what < 0 || what > 4) {
            throw new NoSuchElementException();
        }
        setting.set(now);
        int place = setting.lineOf[which][k];
        switch (what) {
            case 0:
                return now.pageOf(place);
            case 1:
                return place - now.pageOf(place) * now.height;
            case 2:
                return setting.columnOf(now, which, k);
            case 3:
                return now.sizes[which][k];
            default:
                return k - setting.first[which][place];
        }
    }

    public int at(int page, int line, int column) {
        int place = placeOf(page, line);
        if (place < 0 || column < 0 || column >= now.width) {
            return NONE;
        }
        for (int t = 0; t < TEXTS; t++) {
            int taken = setting.takenAt(t, place);
            for (int i = 0; i < taken; i++) {
                int k = setting.first[t][place] + i;
                int letter = column - setting.columnOf(now, t, k);
                if (letter >= 0 && letter < now.sizes[t][k]) {
                    told.tell(letter);
                    return 100 * t + k;
                }
            }
        }
        return -2;
    }

    public int ends(int which) {
        if (!isText(which)) {
            return NONE;
        }
        setting.set(now);
        told.tell(setting.parts[which], setting.raggedOf[which]);
        return setting.endOf(now, which);
    }

    public int apart() {
        setting.set(now);
        told.tell(setting.firstToEnd(now), setting.lastToEnd(now));
        return setting.endsApart(now);
    }

    public int ragged() {
        setting.set(now);
        int most = 0;
        int place = 0;
        int which = 0;
        for (int line = 0; line < setting.lines; line++) {
            for (int t = 0; t < TEXTS; t++) {
                if (setting.takenAt(t, line) > 0 && setting.raggedAt[t][line] > most) {
                    most = setting.raggedAt[t][line];
                    place = line;
                    which = t;
                }
            }
        }
        int page = now.pageOf(place);
        told.tell(most, page, place - page * now.height, which);
        return setting.raggedInAll();
    }

    public int cost() {
        setting.set(now);
        told.tell(setting.endsApart(now), setting.brokenTies(now), setting.raggedInAll());
        return setting.costOf(now);
    }

    public int line(int page, int line) {
        int place = placeOf(page, line);
        if (place < 0) {
            return NONE;
        }
        told.noughts(now.width);
        int letters = 0;
        for (int t = 0; t < TEXTS; t++) {
            int taken = setting.takenAt(t, place);
            for (int i = 0; i < taken; i++) {
                int k = setting.first[t][place] + i;
                told.put(setting.columnOf(now, t, k), now.sizes[t][k], t + 1);
                letters += now.sizes[t][k];
            }
        }
        return letters;
    }

    public int blank() {
        setting.set(now);
        int pages = setting.pageCount(now);
        if (pages == 0) {
            told.tell(0);
            return 0;
        }
        int columns = now.height * now.width;
        told.tell(columns - setting.lettersFrom(now, (pages - 1) * now.height));
        return pages * columns - setting.lettersFrom(now, 0);
    }

    // ---- ties

    public int tie(int i) throws NoSuchElementException {
        if (i < 0 || i >= now.ties) {
            throw new NoSuchElementException();
        }
        setting.set(now);
        int deep = setting.deepOf(now, i);
        told.tell(isBroken(deep) ? 1 : 0, now.tieText[i], now.tieWord[i], now.tieMain[i]);
        return deep;
    }

    public int broken() {
        setting.set(now);
        int first = NONE;
        int together = 0;
        for (int i = now.ties - 1; i >= 0; i--) {
            int deep = setting.deepOf(now, i);
            together += deep;
            if (isBroken(deep)) {
                first = i;
            }
        }
        told.tell(first, together);
        return setting.brokenTies(now);
    }

    public int loose() {
        int first = NONE;
        int loose = 0;
        for (int j = now.counts[MAIN] - 1; j >= 0; j--) {
            if (!now.isTied(MAIN, j)) {
                first = j;
                loose++;
            }
        }
        told.tell(first);
        return loose;
    }

    // ---- what would be

    public int by(int crown, int inner, int outer) {
        if (!now.allows(crown, inner, outer)) {
            return NONE;
        }
        trial.copy(now);
        trial.plan(crown, inner, outer);
        setting.set(trial);
        told.tell(setting.pageCount(trial), setting.endsApart(trial),
            setting.brokenTies(trial), setting.raggedInAll());
        return setting.costOf(trial);
    }

    public int best(int most, int step) {
        if (!isGrid(most, step)) {
            return NONE;
        }
        trial.copy(now);
        search.findBest(trial, setting, most, step);
        told.tell(search.crown, search.inner, search.outer, search.plans);
        return search.cost;
    }

    public int near(int most, int step, int n) {
        if (!isGrid(most, step) || n < 0 || n > MOST_NEAR) {
            return NONE;
        }
        trial.copy(now);
        search.findNear(trial, setting, most, step, n);
        if (search.plans == 0) {
            told.clear();
        } else {
            told.tell(search.crown, search.inner, search.outer);
        }
        return search.plans;
    }

    public int climbs() {
        trial.copy(now);
        int steps = search.climb(trial, setting);
        told.tell(search.crown, search.inner, search.outer, search.cost);
        return steps;
    }

    public int narrow(int n) {
        return leastMeasure(WIDTH, n);
    }

    public int low(int n) {
        return leastMeasure(HEIGHT, n);
    }

    public int more(int which, int k, int size) {
        trial.copy(now);
        int answer = putWord(trial, which, k, size);
        return answer < 0 ? answer : trialCost();
    }

    public int less(int which, int k) {
        trial.copy(now);
        int answer = dropWord(trial, which, k);
        return answer < 0 ? answer : trialCost();
    }

    public int spare(int what) {
        if (what != INNER && what != OUTER) {
            return NONE;
        }
        trial.copy(now);
        setting.set(trial);
        int pages = setting.pageCount(trial);
        if (pages == 0) {
            return -2;
        }
        int apart = setting.endsApart(trial);
        int spare = 0;
        for (int k = now.counts[what]; k < MOST_WORDS; k++) {
            trial.put(what, k, SPARE_SIZE);
            setting.set(trial);
            // Further words never make the pages fewer again, so the first that is too many ends it.
            if (setting.pageCount(trial) != pages) {
                break;
            }
            apart = setting.endsApart(trial);
            spare++;
        }
        told.tell(apart);
        return spare;
    }

    // ---- changes

    public int sets(int what, int v) {
        past.mark(now);
        return remembered(setMeasure(what, v));
    }

    public int weighs(int what, int v) {
        if (what < 0 || what >= WEIGHTS || v < 0 || v > MOST_WEIGHT[what]) {
            return NONE;
        }
        int was = now.weights[what];
        if (was == v) {
            return -2;
        }
        past.mark(now);
        now.weights[what] = v;
        return remembered(was);
    }

    public int swaps() {
        past.mark(now);
        return remembered(swapComments());
    }

    public int plans(int crown, int inner, int outer) {
        past.mark(now);
        return remembered(setPlan(crown, inner, outer));
    }

    public int takesBest(int most, int step) {
        past.mark(now);
        return remembered(setBest(most, step));
    }

    public int comes(int which, int k, int size) {
        past.mark(now);
        return remembered(putWord(now, which, k, size));
    }

    public int goes(int which, int k) {
        past.mark(now);
        return remembered(dropWord(now, which, k));
    }

    public int day() {
        int fault = faultOfDay();
        if (fault < 0) {
            text.clear();
            return fault;
        }
        past.mark(now);
        int done = 0;
        boolean stopped = false;
        for (int p = 0; p < text.length && !stopped; p += 1 + Math.max(0, digitsOf(text.signAt(p)))) {
            if (doAct(p) < 0) {
                stopped = true;
            } else {
                done++;
            }
        }
        text.clear();
        if (done > 0) {
            past.remember();
        }
        setting.set(now);
        told.tell(stopped ? 1 : 0, setting.costOf(now));
        return done;
    }

    public int undo() {
        return past.takeBack(now) ? past.length : NONE;
    }

    public int years(int seed, int n) {
        if (n < 1 || n > MOST_YEARS) {
            return NONE;
        }
        trial.copy(now);
        int r = seed;
        for (int i = 0; i < n; i++) {
            r = nextDraw(r);
            int which = drawn(r, TEXTS);
            r = nextDraw(r);
            int size = drawn(r, MOST_SIZE) + 1;
            trial.put(which, trial.counts[which], size);
        }
        setting.set(trial);
        told.tell(setting.costOf(trial), trial.counts[MAIN], trial.counts[INNER], trial.counts[OUTER]);
        return setting.pageCount(trial);
    }

    // ---- kept

    public boolean keep(int i) {
        if (i < 0 || i >= KEPT) {
            return false;
        }
        kept[i].copy(now);
        isKept[i] = true;
        return true;
    }

    public boolean again(int i) {
        if (i < 0 || i >= KEPT || !isKept[i]) {
            return false;
        }
        now.copy(kept[i]);
        past.forget();
        return true;
    }

    public int count(int what) {
        switch (what) {
            case 0:
                return now.width;
            case 1:
                return now.height;
            case 2:
                return now.crown;
            case 3:
                return now.inner;
            case 4:
                return now.outer;
            case 5:
            case 6:
            case 7:
                return now.counts[what - 5];
            case 8:
                return now.ties;
            case 9:
                return past.length;
            case 10:
                return told.length;
            case 11:
                return text.length;
            case 12:
                return now.gutter;
            case 13:
            case 14:
            case 15:
                return now.weights[what - 13];
            default:
                return NONE;
        }
    }

    public long row(int i) throws NoSuchElementException {
        if (i < 0 || i >= told.length) {
            throw new NoSuchElementException();
        }
        return told.numbers[i];
    }

    // ---- what can be

    private static boolean isText(int which) {
        return which >= 0 && which < TEXTS;
    }

    private static boolean isSize(int size) {
        return size >= 1 && size <= MOST_SIZE;
    }

    private static boolean isGrid(int most, int step) {
        return most >= 0 && most <= MOST_CROWN && step >= 1 && step <= MOST_STEP;
    }

    private static boolean isBroken(int deep) {
        return deep < 0 || deep > MOST_DEEP;
    }

    // ---- reading THE TEXT

    private int readWords(int which) {
        for (int p = 0; p < text.length; p++) {
            if (p >= MOST_WORDS || text.digitAt(p) < 1) {
                return -1 - p;
            }
        }
        now.dropTiesOf(which);
        now.counts[which] = text.length;
        for (int p = 0; p < text.length; p++) {
            now.setSize(which, p, text.digitAt(p));
        }
        return text.length;
    }

    /** The ties are gathered in the trial leaf, so that a sign that can't stand there leaves all as it was. */
    private int readTies() {
        trial.copy(now);
        trial.ties = 0;
        for (int p = 0; p < text.length; p += 5) {
            int fault = readTie(p);
            if (fault < 0) {
                return fault;
            }
        }
        now.copy(trial);
        return now.ties;
    }

    private int readTie(int p) {
        int sign = text.signAt(p);
        int comment = sign == 'i' ? INNER : sign == 'o' ? OUTER : NONE;
        if (comment < 0 || trial.ties >= MOST_TIES) {
            return -1 - p;
        }
        int k = text.numberAt(p + 1, 2);
        if (k < 0) {
            return k;
        }
        if (!trial.hasWord(comment, k) || trial.isTied(comment, k)) {
            return -1 - (p + 2);
        }
        int j = text.numberAt(p + 3, 2);
        if (j < 0) {
            return j;
        }
        if (!trial.hasWord(MAIN, j)) {
            return -1 - (p + 4);
        }
        trial.addTie(comment, k, j);
        return 0;
    }

    private static int entry(int kind, int f, int step, int i) {
        int v = f + i * step;
        return kind == 0 ? (byte) v : kind == 1 ? (short) v : v;
    }

    // ---- a day

    /** How many digits an act has behind its letter, or NONE where no act begins so. */
    private static int digitsOf(int sign) {
        switch (sign) {
            case 'x':
                return 0;
            case 'u':
                return 1;
            case 'w':
            case 'h':
            case 'b':
                return 2;
            case 'g':
                return 3;
            case 'c':
                return 4;
            case 'p':
                return 5;
            default:
                return NONE;
        }
    }

    private int faultOfDay() {
        int p = 0;
        while (p < text.length) {
            int digits = digitsOf(text.signAt(p));
            if (digits < 0) {
                return -1 - p;
            }
            int number = text.numberAt(p + 1, digits);
            if (number < 0) {
                return number;
            }
            p += 1 + digits;
        }
        return 0;
    }

    private int doAct(int p) {
        switch (text.signAt(p)) {
            case 'w':
                return setMeasure(WIDTH, text.numberAt(p + 1, 2));
            case 'h':
                return setMeasure(HEIGHT, text.numberAt(p + 1, 2));
            case 'u':
                return setMeasure(GUTTER, text.numberAt(p + 1, 1));
            case 'x':
                return swapComments();
            case 'p':
                return setPlan(text.numberAt(p + 1, 1), text.numberAt(p + 2, 2), text.numberAt(p + 4, 2));
            case 'c':
                return putWord(now, text.numberAt(p + 1, 1), text.numberAt(p + 2, 2), text.numberAt(p + 4, 1));
            case 'g':
                return dropWord(now, text.numberAt(p + 1, 1), text.numberAt(p + 2, 2));
            case 'b':
                return setBest(text.numberAt(p + 1, 1), text.numberAt(p + 2, 1));
            default:
                return NONE;
        }
    }

    // ---- changes that a day does as well, so that they leave to their callers what can be undone

    private int remembered(int answer) {
        if (answer >= 0) {
            past.remember();
        }
        return answer;
    }

    private int setMeasure(int what, int v) {
        if (what < 0 || what >= MEASURES || v < LEAST_MEASURE[what] || v > MOST_MEASURE[what]) {
            return NONE;
        }
        int was = now.measure(what);
        if (was == v) {
            return -2;
        }
        now.setMeasure(what, v);
        if (!now.allowsItsPlan()) {
            now.setMeasure(what, was);
            return -3;
        }
        return was;
    }

    private int swapComments() {
        if (now.counts[INNER] == 0 && now.counts[OUTER] == 0) {
            return -2;
        }
        now.swap();
        return now.counts[INNER];
    }

    private int setPlan(int crown, int inner, int outer) {
        if (!now.allows(crown, inner, outer)) {
            return NONE;
        }
        if (now.hasPlan(crown, inner, outer)) {
            return -2;
        }
        int was = 10000 * now.crown + 100 * now.inner + now.outer;
        now.plan(crown, inner, outer);
        return was;
    }

    private int setBest(int most, int step) {
        if (!isGrid(most, step)) {
            return NONE;
        }
        trial.copy(now);
        search.findBest(trial, setting, most, step);
        if (now.hasPlan(search.crown, search.inner, search.outer)) {
            return -2;
        }
        now.plan(search.crown, search.inner, search.outer);
        return search.cost;
    }

    private static int putWord(Leaf leaf, int which, int k, int size) {
        if (!isText(which) || k < 0 || k > leaf.counts[which] || !isSize(size)) {
            return NONE;
        }
        if (leaf.counts[which] >= MOST_WORDS) {
            return -3;
        }
        leaf.put(which, k, size);
        return leaf.counts[which];
    }

    private static int dropWord(Leaf leaf, int which, int k) {
        if (!leaf.hasWord(which, k)) {
            return NONE;
        }
        leaf.drop(which, k);
        return leaf.counts[which];
    }

    // ---- help for questions

    /** Sets the leaf as it is now, and tells the line counted through all pages, or NONE where there is none such. */
    private int placeOf(int page, int line) {
        setting.set(now);
        if (page < 0 || page >= setting.pageCount(now) || line < 0 || line >= now.height) {
            return NONE;
        }
        return page * now.height + line;
    }

    private int trialCost() {
        setting.set(trial);
        return setting.costOf(trial);
    }

    private int leastMeasure(int what, int n) {
        if (n < 1 || n > MOST_PAGES) {
            return NONE;
        }
        trial.copy(now);
        for (int v = LEAST_MEASURE[what]; v <= MOST_MEASURE[what]; v++) {
            trial.setMeasure(what, v);
            if (!trial.allowsItsPlan()) {
                continue;
            }
            setting.set(trial);
            int pages = setting.pageCount(trial);
            if (pages <= n) {
                told.tell(pages);
                return v;
            }
        }
        return -2;
    }

    private static int nextDraw(int r) {
        return r * 1103515245 + 12345;
    }

    private static int drawn(int r, int n) {
        return n > 0 ? (r >>> 16) % n : 0;
    }

    /** All that the document's terms 1 tell of, and so all that is kept, undone, or tried out. */
    private static final class Leaf {
        int width = 40;
        int height = 20;
        int gutter = 1;
        int crown = 2;
        int inner = 10;
        int outer = 10;
        int ties = 0;
        final int[] weights = {10000, 100, 1};
        final int[] counts = new int[TEXTS];
        final int[][] sizes = new int[TEXTS][MOST_WORDS];
        final int[] tieText = new int[MOST_TIES];
        final int[] tieWord = new int[MOST_TIES];
        final int[] tieMain = new int[MOST_TIES];

        void copy(Leaf other) {
            width = other.width;
            height = other.height;
            gutter = other.gutter;
            plan(other.crown, other.inner, other.outer);
            System.arraycopy(other.weights, 0, weights, 0, WEIGHTS);
            System.arraycopy(other.counts, 0, counts, 0, TEXTS);
            for (int t = 0; t < TEXTS; t++) {
                System.arraycopy(other.sizes[t], 0, sizes[t], 0, MOST_WORDS);
            }
            ties = other.ties;
            System.arraycopy(other.tieText, 0, tieText, 0, MOST_TIES);
            System.arraycopy(other.tieWord, 0, tieWord, 0, MOST_TIES);
            System.arraycopy(other.tieMain, 0, tieMain, 0, MOST_TIES);
        }

        int measure(int what) {
            return what == WIDTH ? width : what == HEIGHT ? height : gutter;
        }

        void setMeasure(int what, int v) {
            if (what == WIDTH) {
                width = v;
            } else if (what == HEIGHT) {
                height = v;
            } else {
                gutter = v;
            }
        }

        boolean allows(int aCrown, int anInner, int anOuter) {
            return aCrown >= 0 && aCrown <= MOST_CROWN && aCrown < height
                && anInner >= LEAST_SHARE && anInner <= MOST_SHARE
                && anOuter >= LEAST_SHARE && anOuter <= MOST_SHARE
                && anInner + anOuter <= width - LEAST_MAIN - 2 * gutter;
        }

        boolean allowsItsPlan() {
            return allows(crown, inner, outer);
        }

        boolean hasPlan(int aCrown, int anInner, int anOuter) {
            return crown == aCrown && inner == anInner && outer == anOuter;
        }

        void plan(int aCrown, int anInner, int anOuter) {
            crown = aCrown;
            inner = anInner;
            outer = anOuter;
        }

        /** The plan goes to the one behind it in a grid: false if it is the last. */
        boolean toNextPlan(int most, int step) {
            if (allows(crown, inner, outer + step)) {
                outer += step;
                return true;
            }
            if (allows(crown, inner + step, LEAST_SHARE)) {
                plan(crown, inner + step, LEAST_SHARE);
                return true;
            }
            if (crown < most && allows(crown + 1, LEAST_SHARE, LEAST_SHARE)) {
                plan(crown + 1, LEAST_SHARE, LEAST_SHARE);
                return true;
            }
            return false;
        }

        int pageOf(int place) {
            return height > 0 ? place / height : 0;
        }

        boolean hasWord(int which, int k) {
            return isText(which) && k >= 0 && k < counts[which];
        }

        /** Answers whether the size is another than it was. */
        boolean setSize(int which, int k, int size) {
            if (!hasWord(which, k) || sizes[which][k] == size) {
                return false;
            }
            sizes[which][k] = size;
            return true;
        }

        void put(int which, int k, int size) {
            if (!isText(which) || k < 0 || k > counts[which] || counts[which] >= MOST_WORDS) {
                return;
            }
            int[] row = sizes[which];
            for (int i = counts[which]; i > k; i--) {
                row[i] = row[i - 1];
            }
            row[k] = size;
            counts[which]++;
            moveTies(which, k, 1);
        }

        void drop(int which, int k) {
            if (!hasWord(which, k)) {
                return;
            }
            int[] row = sizes[which];
            for (int i = k + 1; i < counts[which]; i++) {
                row[i - 1] = row[i];
            }
            counts[which]--;
            for (int i = ties - 1; i >= 0; i--) {
                if (isTieOf(i, which, k)) {
                    dropTie(i);
                }
            }
            moveTies(which, k, -1);
        }

        void swap() {
            for (int k = 0; k < MOST_WORDS; k++) {
                int size = sizes[INNER][k];
                sizes[INNER][k] = sizes[OUTER][k];
                sizes[OUTER][k] = size;
            }
            int count = counts[INNER];
            counts[INNER] = counts[OUTER];
            counts[OUTER] = count;
            for (int i = 0; i < ties; i++) {
                tieText[i] = tieText[i] == INNER ? OUTER : INNER;
            }
        }

        boolean isTieOf(int i, int which, int k) {
            return which == MAIN ? tieMain[i] == k : tieText[i] == which && tieWord[i] == k;
        }

        boolean isTied(int which, int k) {
            for (int i = 0; i < ties; i++) {
                if (isTieOf(i, which, k)) {
                    return true;
                }
            }
            return false;
        }

        void addTie(int comment, int k, int j) {
            if (ties >= MOST_TIES) {
                return;
            }
            tieText[ties] = comment;
            tieWord[ties] = k;
            tieMain[ties] = j;
            ties++;
        }

        private void dropTie(int i) {
            for (int other = i + 1; other < ties; other++) {
                tieText[other - 1] = tieText[other];
                tieWord[other - 1] = tieWord[other];
                tieMain[other - 1] = tieMain[other];
            }
            ties--;
        }

        void dropTiesOf(int which) {
            for (int i = ties - 1; i >= 0; i--) {
                if (which == MAIN || tieText[i] == which) {
                    dropTie(i);
                }
            }
        }

        private void moveTies(int which, int from, int by) {
            for (int i = 0; i < ties; i++) {
                if (which == MAIN) {
                    tieMain[i] += tieMain[i] >= from ? by : 0;
                } else if (tieText[i] == which) {
                    tieWord[i] += tieWord[i] >= from ? by : 0;
                }
            }
        }
    }

    /** How a leaf is set: its lines are counted through all pages, so a line's number is a place, too. */
    private static final class Setting {
        int lines = 0;
        final int[] next = new int[TEXTS];
        final int[] parts = new int[TEXTS];
        final int[] raggedOf = new int[TEXTS];
        final int[][] lineOf = new int[TEXTS][MOST_WORDS];
        final int[][] first = new int[TEXTS][MOST_LINES];
        final int[][] taken = new int[TEXTS][MOST_LINES];
        final int[][] width = new int[TEXTS][MOST_LINES];
        final int[][] column = new int[TEXTS][MOST_LINES];
        final int[][] raggedAt = new int[TEXTS][MOST_LINES];

        void set(Leaf leaf) {
            for (int t = 0; t < TEXTS; t++) {
                next[t] = 0;
                parts[t] = 0;
                raggedOf[t] = 0;
            }
            int lineOfPage = 0;
            int line = 0;
            for (; line < MOST_LINES && (isLeft(leaf, MAIN) || isLeft(leaf, INNER) || isLeft(leaf, OUTER)); line++) {
                setLine(leaf, line, lineOfPage < leaf.crown);
                lineOfPage = lineOfPage + 1 < leaf.height ? lineOfPage + 1 : 0;
            }
            lines = line;
        }

        private boolean isLeft(Leaf leaf, int which) {
            return next[which] < leaf.counts[which];
        }

        private void setLine(Leaf leaf, int line, boolean inCrown) {
            boolean inner = isLeft(leaf, INNER);
            boolean outer = isLeft(leaf, OUTER);
            boolean main = isLeft(leaf, MAIN) && !(inCrown && (inner || outer));
            int innerWidth = 0;
            if (inner) {
                innerWidth = main ? leaf.inner : outer ? (leaf.width - leaf.gutter) / 2 : leaf.width;
            }
            int mainColumn = inner ? innerWidth + leaf.gutter : 0;
            int outerWidth = 0;
            if (outer) {
                outerWidth = main ? leaf.outer : leaf.width - mainColumn;
            }
            int mainWidth = 0;
            if (main) {
                mainWidth = leaf.width - mainColumn - (outer ? outerWidth + leaf.gutter : 0);
            }
            takePart(leaf, INNER, line, 0, innerWidth);
            takePart(leaf, MAIN, line, mainColumn, mainWidth);
            takePart(leaf, OUTER, line, leaf.width - outerWidth, outerWidth);
        }

        private void takePart(Leaf leaf, int which, int line, int from, int wide) {
            if (wide <= 0) {
                taken[which][line] = 0;
                return;
            }
            int[] sizes = leaf.sizes[which];
            int[] places = lineOf[which];
            int count = leaf.counts[which];
            int start = next[which];
            // One column more than there is, as each word is counted with a blank, the last one, too.
            int room = wide + 1;
            int k = start;
            for (; k < count && sizes[k] < room; k++) {
                room -= sizes[k] + 1;
                places[k] = line;
            }
            int square = k < count ? room * room : 0;
            first[which][line] = start;
            taken[which][line] = k - start;
            width[which][line] = wide;
            column[which][line] = from;
            raggedAt[which][line] = square;
            raggedOf[which] += square;
            parts[which]++;
            next[which] = k;
        }

        int pageCount(Leaf leaf) {
            return leaf.pageOf(lines + leaf.height - 1);
        }

        /** The lines behind the last one that is set belong to its page, and have no parts. */
        int takenAt(int which, int line) {
            return line < lines ? taken[which][line] : 0;
        }

        int columnOf(Leaf leaf, int which, int k) {
            int line = lineOf[which][k];
            int start = first[which][line];
            int words = taken[which][line];
            int ahead = 0;
            int letters = 0;
            for (int i = start; i < start + words; i++) {
                ahead += i < k ? leaf.sizes[which][i] : 0;
                letters += leaf.sizes[which][i];
            }
            int gaps = words - 1;
            boolean isLast = start + words >= leaf.counts[which];
            if (isLast || gaps <= 0) {
                return column[which][line] + ahead + (k - start);
            }
            int blanks = width[which][line] - letters;
            return column[which][line] + ahead + (k - start) * (blanks / gaps) + Math.min(k - start, blanks % gaps);
        }

        int endOf(Leaf leaf, int which) {
            int count = leaf.counts[which];
            return count > 0 ? lineOf[which][count - 1] : NONE;
        }

        int firstToEnd(Leaf leaf) {
            int found = NONE;
            for (int t = TEXTS - 1; t >= 0; t--) {
                if (leaf.counts[t] > 0 && (found < 0 || endOf(leaf, t) <= endOf(leaf, found))) {
                    found = t;
                }
            }
            return found;
        }

        int lastToEnd(Leaf leaf) {
            int found = NONE;
            for (int t = TEXTS - 1; t >= 0; t--) {
                if (leaf.counts[t] > 0 && (found < 0 || endOf(leaf, t) >= endOf(leaf, found))) {
                    found = t;
                }
            }
            return found;
        }

        int endsApart(Leaf leaf) {
            int least = MOST_LINES;
            int most = NONE;
            for (int t = 0; t < TEXTS; t++) {
                int itsEnd = endOf(leaf, t);
                if (itsEnd >= 0) {
                    least = Math.min(least, itsEnd);
                    most = Math.max(most, itsEnd);
                }
            }
            return most < 0 ? 0 : most - least;
        }

        int raggedInAll() {
            return raggedOf[MAIN] + raggedOf[INNER] + raggedOf[OUTER];
        }

        int deepOf(Leaf leaf, int i) {
            return lineOf[leaf.tieText[i]][leaf.tieWord[i]] - lineOf[MAIN][leaf.tieMain[i]];
        }

        int brokenTies(Leaf leaf) {
            int broken = 0;
            for (int i = 0; i < leaf.ties; i++) {
                if (isBroken(deepOf(leaf, i))) {
                    broken++;
                }
            }
            return broken;
        }

        int costOf(Leaf leaf) {
            return endsApart(leaf) * leaf.weights[0] + brokenTies(leaf) * leaf.weights[1]
                + raggedInAll() * leaf.weights[2];
        }

        int lettersFrom(Leaf leaf, int line) {
            int letters = 0;
            for (int t = 0; t < TEXTS; t++) {
                for (int k = 0; k < leaf.counts[t]; k++) {
                    letters += lineOf[t][k] >= line ? leaf.sizes[t][k] : 0;
                }
            }
            return letters;
        }
    }

    /** Looks for a plan, trying each on a leaf that is given up to it. */
    private static final class Search {
        int crown = 0;
        int inner = 0;
        int outer = 0;
        int cost = 0;
        int plans = 0;

        private void note(Leaf leaf, int aCost) {
            crown = leaf.crown;
            inner = leaf.inner;
            outer = leaf.outer;
            cost = aCost;
        }

        void findBest(Leaf leaf, Setting setting, int most, int step) {
            plans = 0;
            leaf.plan(0, LEAST_SHARE, LEAST_SHARE);
            boolean goesOn = true;
            for (int i = 0; goesOn && i < MOST_PLANS; i++) {
                setting.set(leaf);
                int itsCost = setting.costOf(leaf);
                if (plans == 0 || itsCost < cost) {
                    note(leaf, itsCost);
                }
                plans++;
                goesOn = leaf.toNextPlan(most, step);
            }
        }

        void findNear(Leaf leaf, Setting setting, int most, int step, int n) {
            plans = 0;
            leaf.plan(0, LEAST_SHARE, LEAST_SHARE);
            boolean goesOn = true;
            for (int i = 0; goesOn && i < MOST_PLANS; i++) {
                setting.set(leaf);
                if (setting.endsApart(leaf) <= n) {
                    if (plans == 0) {
                        note(leaf, 0);
                    }
                    plans++;
                }
                goesOn = leaf.toNextPlan(most, step);
            }
        }

        /** Answers how many steps it goes. */
        int climb(Leaf leaf, Setting setting) {
            setting.set(leaf);
            note(leaf, setting.costOf(leaf));
            for (int steps = 0; steps < MOST_PLANS; steps++) {
                if (!findBetter(leaf, setting)) {
                    return steps;
                }
            }
            return MOST_PLANS;
        }

        private boolean findBetter(Leaf leaf, Setting setting) {
            int fromCrown = crown;
            int fromInner = inner;
            int fromOuter = outer;
            boolean found = false;
            for (int i = 0; i < MOVES; i++) {
                int itsCrown = fromCrown + CROWN_MOVES[i];
                int itsInner = fromInner + INNER_MOVES[i];
                int itsOuter = fromOuter + OUTER_MOVES[i];
                if (!leaf.allows(itsCrown, itsInner, itsOuter)) {
                    continue;
                }
                leaf.plan(itsCrown, itsInner, itsOuter);
                setting.set(leaf);
                int itsCost = setting.costOf(leaf);
                if (itsCost < cost) {
                    note(leaf, itsCost);
                    found = true;
                }
            }
            return found;
        }
    }

    /** The latest changes, each as the leaf ahead of it; one place more than are kept takes the marks. */
    private static final class Past {
        private static final int PLACES = UNDONE + 1;
        final Leaf[] leaves = new Leaf[PLACES];
        int next = 0;
        int length = 0;

        Past() {
            for (int i = 0; i < PLACES; i++) {
                leaves[i] = new Leaf();
            }
        }

        /** Takes down how it is ahead of a change that may yet be refused. */
        void mark(Leaf leaf) {
            leaves[next].copy(leaf);
        }

        /** The change that was marked last is done. */
        void remember() {
            next = next + 1 < PLACES ? next + 1 : 0;
            length = Math.min(length + 1, UNDONE);
        }

        boolean takeBack(Leaf leaf) {
            if (length == 0) {
                return false;
            }
            next = next > 0 ? next - 1 : PLACES - 1;
            length--;
            leaf.copy(leaves[next]);
            return true;
        }

        void forget() {
            length = 0;
        }
    }

    /** THE TEXT. */
    private static final class Signs {
        final int[] signs = new int[MOST_SIGNS];
        int length = 0;

        boolean add(int v) {
            if (length + 4 > MOST_SIGNS) {
                return false;
            }
            for (int i = 0; i < 4; i++) {
                signs[length + i] = v >>> (24 - 8 * i) & 255;
            }
            length += 4;
            return true;
        }

        boolean cut(int n) {
            if (n < 0 || n > length) {
                return false;
            }
            length = n;
            return true;
        }

        void clear() {
            length = 0;
        }

        /** NONE behind its end, which is no sign, so that an early end is found like a wrong sign. */
        int signAt(int p) {
            return p >= 0 && p < length ? signs[p] : NONE;
        }

        int digitAt(int p) {
            int sign = signAt(p);
            return sign >= '0' && sign <= '9' ? sign - '0' : NONE;
        }

        /** The number that so many digits from p on tell, or -1 - q where at q there is none. */
        int numberAt(int p, int digits) {
            int number = 0;
            for (int q = p; q < p + digits; q++) {
                int digit = digitAt(q);
                if (digit < 0) {
                    return -1 - q;
                }
                number = 10 * number + digit;
            }
            return number;
        }
    }

    /** The ROW; a line of the widest page is the longest one. */
    private static final class Row {
        private static final int MOST_NUMBERS = 60;
        final long[] numbers = new long[MOST_NUMBERS];
        int length = 0;

        void clear() {
            length = 0;
        }

        void tell(long a) {
            numbers[0] = a;
            length = 1;
        }

        void tell(long a, long b) {
            tell(a);
            numbers[1] = b;
            length = 2;
        }

        void tell(long a, long b, long c) {
            tell(a, b);
            numbers[2] = c;
            length = 3;
        }

        void tell(long a, long b, long c, long d) {
            tell(a, b, c);
            numbers[3] = d;
            length = 4;
        }

        void noughts(int n) {
            length = Math.max(0, Math.min(n, MOST_NUMBERS));
            for (int i = 0; i < length; i++) {
                numbers[i] = 0;
            }
        }

        void put(int from, int n, int number) {
            for (int i = Math.max(0, from); i < from + n && i < length; i++) {
                numbers[i] = number;
            }
        }
    }
}
