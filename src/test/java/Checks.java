import java.io.IOException;
import java.nio.file.Files;
import java.nio.file.Path;
import java.util.ArrayList;
import java.util.LinkedHashMap;
import java.util.List;
import java.util.Map;
import java.util.NoSuchElementException;
import java.util.function.Supplier;
import java.util.function.ToIntFunction;

/** What tests have in common: writing THE TEXT, looking at all that an object holds, counting what is wrong. */
abstract class Checks {
    static final int NONE = RingedPage.NONE;
    static final int MIN = Integer.MIN_VALUE;
    static final int MAX = Integer.MAX_VALUE;
    static final int[] NO_TEXTS = {-1, 3, MIN, MAX};
    /** What can be undone; change() does each of them. */
    static final String[] KINDS = {"words", "ties", "sets W", "sets H", "sets GUTTER", "weighs", "swaps", "plans", "takesBest",
        "comes", "goes", "day"};
    private static final Path DOCUMENT = Path.of("../shared/DOC.md");
    private static final Map<String, List<String>> QUOTED = new LinkedHashMap<>();
    private static String where = "";
    private static int wrong = 0;
    private static int looked = 0;

    // ---- what is due

    /** What follows is for this sentence of this part of the document ("Terms 1", "Promise 4"). */
    static void edge(String part, String sentence) {
        QUOTED.computeIfAbsent(part, key -> new ArrayList<>()).add(sentence);
        where = part + ", \"" + sentence + "\": ";
    }

    /** What follows is for a part of the document that has no sentences to quote. */
    static void under(String part) {
        where = part + ": ";
    }

    static void due(String what, Object got, Object want) {
        looked++;
        if (!got.equals(want)) {
            wrong++;
            System.out.println(where + what + ": got " + got + ", due is " + want);
        }
    }

    /** The answer, and the ROW behind it. */
    static void due(String what, RingedPage x, int got, int want, long... row) {
        due(what, got, want);
        due(what + ", the ROW", rowOf(x), asList(row));
    }

    /** The call answers so, and all that can be seen of the object stays as it was. */
    static void refused(String what, Supplier<RingedPage> maker, ToIntFunction<RingedPage> call, int answer) {
        RingedPage x = maker.get();
        due(what, call.applyAsInt(x), answer);
        due(what + ": all stays", allOf(x), allOf(maker.get()));
    }

    /** The call answers so, and all stays as it was, but that THE TEXT is empty. */
    static void refusedReading(String what, Supplier<RingedPage> maker, ToIntFunction<RingedPage> call, int answer) {
        RingedPage x = maker.get();
        due(what, call.applyAsInt(x), answer);
        RingedPage emptied = maker.get();
        emptied.end(0);
        due(what + ": all but THE TEXT stays", allOf(x), allOf(emptied));
    }

    /** The call changes nothing but the ROW. */
    static void question(String what, Supplier<RingedPage> maker, ToIntFunction<RingedPage> call) {
        RingedPage x = maker.get();
        call.applyAsInt(x);
        due(what + ": nothing changes", allButRowOf(x), allButRowOf(maker.get()));
    }

    static void finish() {
        System.out.println(looked + " answers looked at, " + wrong + " wrong");
        if (wrong != 0 || looked == 0) {
            System.exit(1);
        }
    }

    // ---- the document

    /** Each sentence that a test names stands in the document, and each word of these parts in such a sentence. */
    static void finishParts(String... parts) {
        where = "";
        if (!isDocumentThere()) {
            System.out.println("there is no " + DOCUMENT + ": sentences were not looked up");
            finish();
            return;
        }
        for (String part : parts) {
            String text = partOfDocument(part);
            due(part + " stands in the document", text.isEmpty(), false);
            boolean[] isNamed = new boolean[text.length()];
            for (String sentence : QUOTED.getOrDefault(part, List.of())) {
                due(part + " says \"" + sentence + "\"", mark(text, sentence, isNamed), true);
            }
            due(part + ", words that no test is for", notNamed(text, isNamed), "");
        }
        for (String part : QUOTED.keySet()) {
            due(part + " is looked up", List.of(parts).contains(part), true);
        }
        finish();
    }

    private static boolean mark(String text, String sentence, boolean[] isNamed) {
        int at = text.indexOf(sentence);
        if (at < 0) {
            return false;
        }
        for (int i = at; i < at + sentence.length(); i++) {
            isNamed[i] = true;
        }
        return true;
    }

    private static String notNamed(String text, boolean[] isNamed) {
        StringBuilder b = new StringBuilder();
        for (int i = 0; i < text.length(); i++) {
            if (!isNamed[i] && Character.isLetterOrDigit(text.charAt(i))) {
                b.append(text.charAt(i));
            } else if (b.length() > 0 && b.charAt(b.length() - 1) != ' ') {
                b.append(' ');
            }
        }
        return b.toString().trim();
    }

    static boolean isDocumentThere() {
        return Files.isReadable(DOCUMENT);
    }

    static String document() {
        return contentOf(DOCUMENT);
    }

    static String contentOf(Path file) {
        try {
            return Files.readString(file);
        } catch (IOException e) {
            throw new IllegalStateException(e);
        }
    }

    private static String partOfDocument(String part) {
        String text = document();
        if (part.startsWith("Promise")) {
            String from = between(text, "## " + part + ":", "\n## ");
            return plain(from.substring(from.indexOf("`: ") + 3));
        }
        if (part.equals("What it is")) {
            return plain(between(text, "\n## What it is\n", "\n## "));
        }
        if (part.equals("Terms 1")) {
            return plain(between(text, "\n1. ", "\n2. "));
        }
        return part.equals("Terms 2") ? plain(between(text, "\n2. ", "\nAhead of")) : "";
    }

    static String between(String text, String from, String to) {
        int start = text.indexOf(from);
        int stop = start < 0 ? -1 : text.indexOf(to, start + from.length());
        return stop < 0 ? "" : text.substring(start + from.length(), stop);
    }

    private static String plain(String text) {
        return text.replace("```text", " ").replace("```", " ").replaceAll("\\s+", " ").trim();
    }

    // ---- THE TEXT

    static void write(RingedPage x, String signs) {
        int p = 0;
        while (p < signs.length()) {
            int v = 0;
            for (int i = 0; i < 4; i++) {
                v = v << 8 | (p + i < signs.length() ? signs.charAt(p + i) & 255 : 0);
            }
            x.sign(v);
            p += 4;
        }
        due("the text " + signs, x.end(signs.length()), true);
    }

    static int words(RingedPage x, int which, String signs) {
        write(x, signs);
        return x.words(which);
    }

    static int ties(RingedPage x, String signs) {
        write(x, signs);
        return x.ties();
    }

    static int day(RingedPage x, String signs) {
        write(x, signs);
        return x.day();
    }

    static String times(String s, int n) {
        return s.repeat(n);
    }

    // ---- what an object holds

    static List<Long> asList(long... row) {
        List<Long> list = new ArrayList<>();
        for (long v : row) {
            list.add(v);
        }
        return list;
    }

    static List<Long> rowOf(RingedPage x) {
        List<Long> list = new ArrayList<>();
        int n = x.count(10);
        for (int i = 0; i < n; i++) {
            list.add(x.row(i));
        }
        return list;
    }

    static String signsOfRow(RingedPage x) {
        StringBuilder b = new StringBuilder();
        for (long number : rowOf(x)) {
            b.append(number);
        }
        return b.toString();
    }

    static String wordsOf(RingedPage x, int which) {
        StringBuilder b = new StringBuilder();
        int n = x.count(5 + which);
        for (int k = 0; k < n; k++) {
            b.append(x.word(which, k, 3));
        }
        return b.toString();
    }

    /** It tells the ROW anew. */
    static String tiesOf(RingedPage x) {
        StringBuilder b = new StringBuilder();
        int n = x.count(8);
        for (int i = 0; i < n; i++) {
            x.tie(i);
            b.append(x.row(1) == 1 ? 'i' : 'o').append(x.row(2)).append('-').append(x.row(3)).append(' ');
        }
        return b.toString().trim();
    }

    static String planOf(RingedPage x) {
        return x.count(2) + " " + x.count(3) + " " + x.count(4);
    }

    /** All that terms 1 tell of; it tells the ROW anew. */
    static String stateOf(RingedPage x) {
        StringBuilder b = new StringBuilder();
        for (int what : new int[] {0, 1, 2, 3, 4, 12, 13, 14, 15}) {
            b.append(x.count(what)).append(' ');
        }
        for (int t = 0; t < 3; t++) {
            b.append(wordsOf(x, t)).append(' ');
        }
        return b.append(tiesOf(x)).toString();
    }

    /** All that can be seen of an object; it uses the object up. */
    static String allOf(RingedPage x) {
        return "ROW " + rowOf(x) + allButRowOf(x);
    }

    /** The same, but for the ROW: the state, each that can be gone back to, each that is kept, and THE TEXT. */
    static String allButRowOf(RingedPage x) {
        StringBuilder b = new StringBuilder();
        b.append(" now ").append(stateOf(x)).append(", to undo ").append(x.count(9)).append(", signs ").append(x.count(11));
        for (int i = 0; i < 8; i++) {
            int left = x.undo();
            if (left == NONE) {
                break;
            }
            b.append(", ").append(left).append(" behind ").append(stateOf(x));
        }
        for (int i = 0; i < 2; i++) {
            b.append(", kept ").append(i).append(' ').append(x.again(i) ? stateOf(x) : "nothing");
        }
        return b.append(", as words ").append(x.words(0)).append(' ').append(wordsOf(x, 0)).toString();
    }

    static boolean wordThrows(RingedPage x, int which, int k, int what) {
        try {
            x.word(which, k, what);
            return false;
        } catch (NoSuchElementException e) {
            return true;
        }
    }

    static boolean tieThrows(RingedPage x, int i) {
        try {
            x.tie(i);
            return false;
        } catch (NoSuchElementException e) {
            return true;
        }
    }

    static boolean rowThrows(RingedPage x, int i) {
        try {
            x.row(i);
            return false;
        } catch (NoSuchElementException e) {
            return true;
        }
    }

    // ---- objects to look at

    /** W, H, GUTTER, the plan, and words of the texts; each of these calls is done or not needed. */
    static RingedPage page(int w, int h, int gutter, int crown, int inner, int outer, String... texts) {
        RingedPage x = new RingedPage();
        x.plans(0, 9, 9);
        x.sets(0, w);
        x.sets(1, h);
        x.sets(2, gutter);
        x.plans(crown, inner, outer);
        for (int t = 0; t < texts.length; t++) {
            due("words " + texts[t], words(x, t, texts[t]), texts[t].length());
        }
        due("the page " + w + " " + h + " " + gutter, x.count(0) + " " + x.count(1) + " " + x.count(12), w + " " + h + " " + gutter);
        due("its plan", planOf(x), crown + " " + inner + " " + outer);
        return x;
    }

    /**
     * W 40, H 3, CROWN 1. Set by hand: page 0, line 0: INNER 0 - 3 (19 wide), OUTER 0 - 1 (20);
     * line 1: INNER 4 - 5 (10), MAIN 0 - 2 (18), OUTER 2 (10); line 2: INNER 6 - 7 (10), MAIN 3 - 7 (29);
     * page 1, line 0: MAIN 8 - 11 (40).
     */
    static RingedPage small() {
        RingedPage x = new RingedPage();
        x.sets(1, 3);
        x.plans(1, 10, 10);
        words(x, 0, "555555555555");
        words(x, 1, "44444444");
        words(x, 2, "999");
        return x;
    }

    static RingedPage smallTied() {
        RingedPage x = small();
        due("ties of the small one", ties(x, "i0000i0703o0208"), 3);
        return x;
    }

    /**
     * Something of everything: H 5, all texts, a tie, six changes to undo, one state kept, a ROW (1, 1, 0), THE TEXT "47".
     * Line 0: INNER 0 - 1 (19), OUTER 0 (20); line 1: MAIN 0 - 2 (40).
     */
    static RingedPage busy() {
        RingedPage x = new RingedPage();
        words(x, 0, "555");
        words(x, 1, "44");
        words(x, 2, "9");
        ties(x, "i0002");
        x.keep(0);
        x.sets(1, 5);
        x.weighs(2, 3);
        due("the busy one", x, x.cost(), 10100, 1, 1, 0);
        write(x, "47");
        return x;
    }

    /** The busy one with another text typed. */
    static RingedPage typed(String signs) {
        RingedPage x = busy();
        x.end(0);
        write(x, signs);
        return x;
    }

    /** The busy one with another plan. */
    static RingedPage planned(int crown, int inner, int outer) {
        RingedPage x = busy();
        due("the plan can be", x.plans(crown, inner, outer), 21010);
        return x;
    }

    /** The busy one as it was kept, so that nothing can be undone. */
    static RingedPage withoutPast() {
        RingedPage x = busy();
        due("it was kept", x.again(0), true);
        return x;
    }

    /** No words, but a ROW. */
    static RingedPage withARow() {
        RingedPage x = new RingedPage();
        x.cost();
        return x;
    }

    /** Seventy words of one text, and a ROW. */
    static RingedPage full(int which) {
        RingedPage x = new RingedPage();
        words(x, which, times("1", 70));
        x.cost();
        return x;
    }

    static RingedPage full() {
        return full(1);
    }

    // ---- what is done to them

    /** One of the changes, each of which can be done on the small one. */
    static int change(RingedPage x, int kind) {
        switch (kind) {
            case 0: return words(x, 1, "12");
            case 1: return ties(x, "o0000");
            case 2: return x.sets(0, 41);
            case 3: return x.sets(1, 4);
            case 4: return x.sets(2, 2);
            case 5: return x.weighs(1, 5);
            case 6: return x.swaps();
            case 7: return x.plans(0, 9, 9);
            case 8: return x.takesBest(2, 1);
            case 9: return x.comes(0, 3, 1);
            case 10: return x.goes(0, 3);
            default: return day(x, "w41h04");
        }
    }

    /** The draws of years() by long numbers, as a second way to them, done by comes(). */
    static void draw(RingedPage x, int seed, int n) {
        long r = seed & 0xffffffffL;
        for (int i = 0; i < n; i++) {
            r = (r * 1103515245L + 12345L) & 0xffffffffL;
            int which = (int) (r / 65536 % 3);
            r = (r * 1103515245L + 12345L) & 0xffffffffL;
            x.comes(which, x.count(5 + which), (int) (r / 65536 % 9) + 1);
        }
    }

    /** The climb from the object's plan on, step by step by by(); how many steps climbs() must tell. */
    static int climbsByHand(RingedPage x) {
        int[] plan = {x.count(2), x.count(3), x.count(4)};
        int cost = x.cost();
        int steps = 0;
        while (true) {
            int[] next = null;
            int least = cost;
            for (int i = 0; i < 6; i++) {
                int[] other = plan.clone();
                other[i / 2] += i % 2 == 0 ? -1 : 1;
                int its = x.by(other[0], other[1], other[2]);
                if (its != NONE && its < least) {
                    least = its;
                    next = other;
                }
            }
            if (next == null) {
                break;
            }
            plan = next;
            cost = least;
            steps++;
        }
        due("climbs", x, x.climbs(), steps, plan[0], plan[1], plan[2], cost);
        return steps;
    }
}
