import java.util.ArrayList;
import java.util.Comparator;
import java.util.List;

/** The edges that terms 1 and 2 of the document name, each sentence with a test of its own. */
public final class EdgeTermsTest extends Checks {
    private static final String NINES = times("9", 70);

    public static void main(String[] args) {
        textsAndSizes();
        width();
        height();
        gutter();
        crown();
        shares();
        sharesTogether();
        whatCannotBe();
        pagesTillNothingIsLeft();
        partsOfALine();
        crownLines();
        crownLinesWithoutComments();
        fromTheLeft();
        oneAlone();
        withoutMain();
        besideMain();
        asManyAsGo();
        aWordAlwaysGoes();
        raggedParts();
        spreadOut();
        spreadOfOneAndOfTheLast();
        columnOfAWord();
        endOfAText();
        endsApart();
        tiesAtMost();
        deepAndBroken();
        costWeighed();
        gridAsFarAsItCanBe();
        bestOfEqualOnes();
        rowToldLast();
        setsAreBits();
        questionsChangeNothing();
        refusedTexts();
        refusedQuestions();
        refusedChanges();
        noneComesAhead();
        rowStaysWithRefusals();
        rowStaysWithCallsThatDoNotTell();
        finishParts("Terms 1", "Terms 2");
    }

    // ---- terms 1

    private static void textsAndSizes() {
        edge("Terms 1", "TEXTS 0 (MAIN), 1 (INNER), 2 (OUTER): each 0 .. 70 WORDS of a SIZE 1 .. 9 (at first none).");
        for (int t = 0; t < 3; t++) {
            int which = t;
            RingedPage x = new RingedPage();
            due("at first none, " + t, x.count(5 + t), 0);
            due("70, " + t, words(x, t, times("1", 70)), 70);
            due("they are there, " + t, wordsOf(x, t), times("1", 70));
            refused("a 71st comes, " + t, () -> full(which), y -> y.comes(which, 70, 1), -3);
            due("none, " + t, words(x, t, ""), 0);
            due("none are there, " + t, x.count(5 + t), 0);
            due("sizes 1 and 9, " + t, words(x, t, "19"), 2);
            refusedReading("size 0, " + t, () -> typed("0"), y -> y.words(which), -1);
            refused("size 10 comes, " + t, Checks::busy, y -> y.comes(which, 0, 10), NONE);
            refused("size 0 comes, " + t, Checks::busy, y -> y.comes(which, 0, 0), NONE);
        }
        RingedPage x = page(40, 20, 1, 0, 10, 10, "9", "9", "9");
        due("INNER is text 1, at the left", x.at(0, 0, 0), 100);
        due("MAIN is text 0, between", x.at(0, 0, 11), 0);
        due("OUTER is text 2, at the right", x.at(0, 0, 30), 200);
    }

    private static void width() {
        edge("Terms 1", "WIDTH W 29 .. 60 (40)");
        RingedPage x = new RingedPage();
        due("at first", x.count(0), 40);
        x.plans(0, 9, 9);
        due("29", x.sets(0, 29), 40);
        due("28", x.sets(0, 28), NONE);
        due("60", x.sets(0, 60), 29);
        due("61", x.sets(0, 61), NONE);
        due("60 stays", x.count(0), 60);
        refused("28 of a busy one", Checks::busy, y -> y.sets(0, 28), NONE);
        refused("61 of a busy one", Checks::busy, y -> y.sets(0, 61), NONE);
    }

    private static void height() {
        edge("Terms 1", "HEIGHT H 3 .. 40 (20)");
        RingedPage x = new RingedPage();
        due("at first", x.count(1), 20);
        due("3", x.sets(1, 3), 20);
        due("2", x.sets(1, 2), NONE);
        due("40", x.sets(1, 40), 3);
        due("41", x.sets(1, 41), NONE);
        due("40 stays", x.count(1), 40);
        x.plans(0, 10, 10);
        due("2 without a crown", x.sets(1, 2), NONE);
        refused("2 of a busy one", Checks::busy, y -> y.sets(1, 2), NONE);
        refused("41 of a busy one", Checks::busy, y -> y.sets(1, 41), NONE);
    }

    private static void gutter() {
        edge("Terms 1", "GUTTER 1 .. 4 (1)");
        RingedPage x = new RingedPage();
        due("at first", x.count(12), 1);
        due("4", x.sets(2, 4), 1);
        due("5", x.sets(2, 5), NONE);
        due("1", x.sets(2, 1), 4);
        due("0", x.sets(2, 0), NONE);
        due("1 stays", x.count(12), 1);
        refused("0 of a busy one", Checks::busy, y -> y.sets(2, 0), NONE);
        refused("5 of a busy one", Checks::busy, y -> y.sets(2, 5), NONE);
    }

    private static void crown() {
        edge("Terms 1", "PLAN: CROWN 0 .. 9 (2; less than H)");
        RingedPage x = new RingedPage();
        due("at first", x.count(2), 2);
        due("0", x.plans(0, 10, 10), 21010);
        due("-1", x.plans(-1, 10, 10), NONE);
        due("9", x.plans(9, 10, 10), 1010);
        due("10", x.plans(10, 10, 10), NONE);
        due("9 stays", x.count(2), 9);
        due("9 of 10 lines", x.sets(1, 10), 20);
        for (int h = 3; h <= 9; h++) {
            RingedPage y = page(40, h, 1, 0, 9, 9);
            due("H less 1, H " + h, y.plans(h - 1, 9, 9), 909);
            due("as many as H, H " + h, y.plans(h, 9, 9), NONE);
            due("H less 1 stays, H " + h, y.count(2), h - 1);
        }
        refused("as many as H", Checks::busy, y -> y.plans(5, 10, 10), NONE);
    }

    private static void shares() {
        edge("Terms 1", "SHARE of INNER, of OUTER 9 .. 40 each (10, 10)");
        RingedPage x = new RingedPage();
        due("at first", x.count(3) + " " + x.count(4), "10 10");
        x.sets(0, 60);
        due("INNER 9", x.plans(2, 9, 10), 21010);
        due("INNER 8", x.plans(2, 8, 10), NONE);
        due("OUTER 9", x.plans(2, 10, 9), 20910);
        due("OUTER 8", x.plans(2, 10, 8), NONE);
        due("INNER 40", x.plans(2, 40, 9), 21009);
        due("INNER 41", x.plans(2, 41, 9), NONE);
        due("OUTER 40", x.plans(2, 9, 40), 24009);
        due("OUTER 41", x.plans(2, 9, 41), NONE);
        due("INNER 41, OUTER 8", x.plans(2, 41, 8), NONE);
        due("the last that could be stays", planOf(x), "2 9 40");
    }

    private static void sharesTogether() {
        edge("Terms 1", "both SHARES together are W less 9 less two GUTTERS at most");
        int[][] cases = {{29, 1, 18}, {30, 1, 19}, {40, 1, 29}, {60, 1, 49}, {31, 2, 18}, {33, 3, 18}, {35, 4, 18}, {60, 4, 43}};
        for (int[] c : cases) {
            RingedPage x = page(c[0], 20, c[1], 2, 9, 9);
            String of = ", W " + c[0] + ", GUTTER " + c[1];
            for (int inner = 9; inner <= c[2] - 9; inner++) {
                due("as many as can be, INNER " + inner + of, x.by(2, inner, c[2] - inner), 0);
                due("one more, INNER " + inner + of, x.by(2, inner, c[2] - inner + 1), NONE);
            }
            due("one more of INNER" + of, x.plans(2, c[2] - 8, 9), NONE);
        }
    }

    private static void whatCannotBe() {
        edge("Terms 1", "(a PLAN, a W, an H, a GUTTER for which all that is not so can't be)");
        refused("a PLAN", Checks::busy, y -> y.plans(2, 15, 15), NONE);
        refused("a W by shares of 20 together", Checks::busy, y -> y.sets(0, 30), -3);
        due("a W one more", busy().sets(0, 31), 40);
        refused("an H by a crown of 4", () -> planned(4, 10, 10), y -> y.sets(1, 4), -3);
        refused("an H below the crown", () -> planned(4, 10, 10), y -> y.sets(1, 3), -3);
        due("an H one more than the crown", planned(3, 10, 10).sets(1, 4), 5);
        refused("a GUTTER by shares of 28 together", () -> planned(2, 14, 14), y -> y.sets(2, 2), -3);
        due("a GUTTER by shares of 27 together", planned(2, 14, 13).sets(2, 2), 1);
        refused("a GUTTER of 4 by shares of 24 together", () -> planned(2, 12, 12), y -> y.sets(2, 4), -3);
        due("a GUTTER of 4 by shares of 23 together", planned(2, 12, 11).sets(2, 4), 1);
    }

    private static void pagesTillNothingIsLeft() {
        edge("Terms 1", "PAGES are set one behind another, LINES 0 .. H - 1 of each, till no TEXT has WORDS left.");
        // four words of 9 fill a line of 40
        RingedPage x = page(40, 3, 1, 0, 10, 10, times("9", 12));
        due("one full page, none behind it", x, x.pages(), 1, 3);
        due("its last line", x.part(0, 2, 0), 4);
        due("no line H", x.part(0, 3, 0), NONE);
        due("no page behind", x.part(1, 0, 0), NONE);
        x.comes(0, 12, 1);
        due("one word more", x, x.pages(), 2, 1);
        due("its page", x.word(0, 12, 0), 1);
        due("its line", x.word(0, 12, 1), 0);
        RingedPage y = page(40, 3, 1, 0, 10, 10, "9", "9", times("9", 14));
        // OUTER: one beside both, then alone four in a line: lines 0 .. 4
        due("till the longest has none left", y, y.pages(), 2, 2);
        due("none", new RingedPage().pages(), 0);
    }

    private static void partsOfALine() {
        edge("Terms 1", "In a LINE of a PAGE those TEXTS have a PART that have WORDS left as it begins;");
        RingedPage x = page(40, 20, 1, 0, 10, 10, "9999", "99", "9");
        due("one that ends in a line has its part there", x, x.part(0, 0, 2), 1, 0, 10, 30, 0);
        due("and leaves no room for others yet", x, x.part(0, 0, 0), 1, 0, 18, 11, 81);
        due("it has none in the next", x.part(0, 1, 2), -2);
        due("where it makes room", x, x.part(0, 1, 0), 3, 1, 29, 11, 0);
        due("nobody has one behind all", x.part(0, 2, 0) + x.part(0, 2, 1) + x.part(0, 2, 2), -6);
    }

    private static void crownLines() {
        edge("Terms 1", "but MAIN has none in the first CROWN LINES of a PAGE, if INNER or OUTER has one.");
        for (int comment = 1; comment < 3; comment++) {
            // pages 0, 1: four words of the comment in each line of the crown, one beside MAIN below
            String nines = times("9", 30);
            RingedPage x = page(40, 4, 1, 3, 10, 10, times("9", 10), comment == 1 ? nines : "", comment == 2 ? nines : "");
            for (int p = 0; p < 2; p++) {
                due("first line of page " + p, x.part(p, 0, 0), -2);
                due("last line of the crown of page " + p, x.part(p, 2, 0), -2);
                due("the line below it of page " + p, x.part(p, 3, 0), 3);
            }
            // page 2: the comment's last four words in line 0
            due("while the comment has one", x.part(2, 0, 0), -2);
            due("the comment's last words", x.part(2, 0, comment), 4);
            due("in the crown, when it has none", x, x.part(2, 1, 0), 4, 6, 40, 0, 0);
            x.plans(0, 10, 10);
            due("without a crown", x.part(0, 0, 0), 3);
            x.plans(1, 10, 10);
            due("by a crown of 1", x.part(0, 0, 0), -2);
            due("below a crown of 1", x.part(0, 1, 0), 3);
        }
    }

    private static void crownLinesWithoutComments() {
        RingedPage x = page(40, 10, 1, 9, 10, 10, "99999");
        due("MAIN alone stands in the crown", x, x.part(0, 0, 0), 4, 0, 40, 0, 1);
        due("and in the next line", x, x.part(0, 1, 0), 1, 4, 40, 0, 0);
        RingedPage y = page(40, 10, 1, 9, 10, 10, "9", "9", "9");
        due("INNER and OUTER over MAIN", y.part(0, 0, 1) + y.part(0, 0, 2), 2);
        due("MAIN not beside them", y.part(0, 0, 0), -2);
        due("but behind them", y.part(0, 1, 0), 1);
    }

    private static void fromTheLeft() {
        edge("Terms 1", "PARTS stand from the left: INNER, MAIN, OUTER, with GUTTER blank columns between.");
        String[] texts = {"9", "9", "9"};
        // of all three, of two, by a gutter: the columns at which INNER, MAIN, OUTER begin
        columns(1, 0, new int[] {0, 11, 30}, texts);
        columns(4, 0, new int[] {0, 14, 30}, texts);
        columns(1, 0, new int[] {0, 11, -1}, "9", "9");
        columns(4, 0, new int[] {0, 14, -1}, "9", "9");
        columns(1, 0, new int[] {-1, 0, 30}, "9", "", "9");
        columns(4, 0, new int[] {-1, 0, 30}, "9", "", "9");
        columns(1, 1, new int[] {0, -1, 20}, texts);
        columns(4, 1, new int[] {0, -1, 22}, texts);
        RingedPage x = page(40, 20, 4, 0, 9, 11, "99", "99", "99");
        // INNER 0 - 8, blanks 9 - 12, MAIN 13 - 24, blanks 25 - 28, OUTER 29 - 39
        due("as it is read", x.line(0, 0), 27);
        String read = times("2", 9) + "0000" + times("1", 9) + "000" + "0000" + times("3", 9) + "00";
        due("letters and blanks", signsOfRow(x), read);
    }

    private static void columns(int gutter, int crown, int[] want, String... texts) {
        RingedPage x = page(40, 20, gutter, crown, 10, 10, texts);
        int[] order = {1, 0, 2};
        for (int i = 0; i < 3; i++) {
            String of = "GUTTER " + gutter + ", CROWN " + crown + ", TEXT " + order[i];
            if (want[i] < 0) {
                due("no part, " + of, x.part(0, 0, order[i]), -2);
            } else {
                due("a part, " + of, x.part(0, 0, order[i]), 1);
                due("it begins, " + of, x.row(2), (long) want[i]);
            }
        }
    }

    private static void oneAlone() {
        edge("Terms 1", "Width of a PART: of one alone W;");
        for (int w : new int[] {29, 40, 60}) {
            for (int t = 0; t < 3; t++) {
                String[] texts = {"", "", ""};
                texts[t] = "9";
                RingedPage x = page(w, 20, 1, 2, 9, 9, texts);
                due("W " + w + ", TEXT " + t, x, x.part(0, 0, t), 1, 0, w, 0, 0);
            }
        }
    }

    private static void withoutMain() {
        edge("Terms 1", "of INNER and OUTER without MAIN: INNER (W - GUTTER) / 2 (rounded down), OUTER the rest less the blanks;");
        // W, GUTTER, widths of INNER, OUTER
        int[][] cases = {{40, 1, 19, 20}, {41, 1, 20, 20}, {40, 2, 19, 19}, {29, 1, 14, 14}, {30, 1, 14, 15}, {60, 1, 29, 30},
            {60, 4, 28, 28}, {35, 4, 15, 16}};
        for (int[] c : cases) {
            for (String main : new String[] {"", "9"}) {
                RingedPage x = page(c[0], 20, c[1], 2, 9, 9, main, "9", "9");
                String of = ", W " + c[0] + ", GUTTER " + c[1] + ", MAIN has " + main.length();
                due("INNER" + of, x, x.part(0, 0, 1), 1, 0, c[2], 0, 0);
                due("OUTER" + of, x, x.part(0, 0, 2), 1, 0, c[3], c[2] + c[1], 0);
            }
        }
    }

    private static void besideMain() {
        edge("Terms 1", "beside MAIN: INNER, OUTER their SHARES, MAIN the rest.");
        RingedPage x = page(40, 20, 1, 0, 20, 9, "9", "9", "9");
        due("INNER", x, x.part(0, 0, 1), 1, 0, 20, 0, 0);
        due("MAIN has 9 at least", x, x.part(0, 0, 0), 1, 0, 9, 21, 0);
        due("OUTER", x, x.part(0, 0, 2), 1, 0, 9, 31, 0);
        words(x, 1, "");
        due("MAIN beside OUTER", x, x.part(0, 0, 0), 1, 0, 30, 0, 0);
        due("OUTER beside MAIN", x, x.part(0, 0, 2), 1, 0, 9, 31, 0);
        x.swaps();
        due("INNER beside MAIN", x, x.part(0, 0, 1), 1, 0, 20, 0, 0);
        due("MAIN beside INNER", x, x.part(0, 0, 0), 1, 0, 19, 21, 0);
        RingedPage y = page(60, 20, 4, 0, 34, 9, "9", "9", "9");
        due("MAIN has 9 by wide gutters", y, y.part(0, 0, 0), 1, 0, 9, 38, 0);
        RingedPage z = page(60, 20, 1, 0, 9, 40, "9", "9", "9");
        due("the greatest share", z, z.part(0, 0, 2), 1, 0, 40, 20, 0);
    }

    private static void asManyAsGo() {
        edge("Terms 1", "A PART takes as many WORDS (in order) as go into its width with one blank between each two.");
        RingedPage x = page(29, 20, 1, 0, 9, 9, "555551");
        due("29 letters and blanks go into 29", x, x.part(0, 0, 0), 5, 0, 29, 0, 0);
        words(x, 0, "555561");
        due("30 do not", x, x.part(0, 0, 0), 4, 0, 29, 0, 36);
        words(x, 0, "555541");
        due("28 go, and nothing behind them", x, x.part(0, 0, 0), 5, 0, 29, 0, 1);
        words(x, 0, "555591");
        due("a small one does not go ahead of a large one", x, x.part(0, 0, 0), 4, 0, 29, 0, 36);
        due("both are in the next line", x, x.part(0, 1, 0), 2, 4, 29, 0, 0);
        words(x, 0, times("1", 16));
        due("fifteen of 1 go into 29", x, x.part(0, 0, 0), 15, 0, 29, 0, 0);
        due("the sixteenth is in the next line", x, x.part(0, 1, 0), 1, 15, 29, 0, 0);
    }

    private static void aWordAlwaysGoes() {
        edge("Terms 1", "(A WORD always goes, as all are 9 wide at least.)");
        int[][] narrow = {{29, 1, 0, 9, 9}, {29, 1, 2, 9, 9}, {35, 4, 0, 9, 9}, {35, 4, 1, 9, 9}, {40, 1, 0, 20, 9}, {40, 1, 1, 9, 20}};
        for (int[] c : narrow) {
            RingedPage x = page(c[0], 40, c[1], c[2], c[3], c[4], times("9", 12), times("9", 12), times("9", 12));
            x.pages();
            int lines = (int) x.row(0);
            for (int line = 0; line < lines; line++) {
                int taken = 0;
                for (int t = 0; t < 3; t++) {
                    int words = x.part(0, line, t);
                    due("a part has a word, W " + c[0] + ", line " + line + ", TEXT " + t, words >= 1 || words == -2, true);
                    taken += Math.max(0, words);
                }
                due("a line has a word, W " + c[0] + ", line " + line, taken > 0, true);
            }
        }
    }

    private static void raggedParts() {
        edge("Terms 1", "BLANKS of a PART: its width less SIZES of its WORDS; "
            + "RAGGED: the square of its width less SIZES and one blank between each two; of a TEXT's last PART 0.");
        RingedPage x = page(29, 20, 1, 0, 9, 9, "5555519");
        due("0, where nothing is left", x, x.part(0, 0, 0), 5, 0, 29, 0, 0);
        words(x, 0, "5555419");
        due("1, where one column is left", x, x.part(0, 0, 0), 5, 0, 29, 0, 1);
        words(x, 0, "555599");
        due("36 of 6 left", x, x.part(0, 0, 0), 4, 0, 29, 0, 36);
        due("0 of the last part", x, x.part(0, 1, 0), 2, 4, 29, 0, 0);
        words(x, 0, "5555");
        due("0 of the last part, the first, too", x, x.part(0, 0, 0), 4, 0, 29, 0, 0);
        RingedPage y = page(29, 20, 1, 0, 9, 9, "999", "19", "");
        due("64 of one word of 1 in 9", y, y.part(0, 0, 1), 1, 0, 9, 0, 64);
        RingedPage z = page(60, 20, 1, 2, 9, 9, "1");
        due("0 of one letter in 60, the last part", z, z.part(0, 0, 0), 1, 0, 60, 0, 0);
    }

    private static void spreadOut() {
        edge("Terms 1", "SPREAD out: BLANKS go between its WORDS, alike, what is left over one each from the left on");
        // 9 9 9 9 in 40: four blanks in three gaps; 9 8 6 6: eleven; 9 9 9 4: nine; 9 8 7 6: ten
        columnsOf("9999" + "9", 0, 11, 21, 31, 0);
        columnsOf("9866" + "9", 0, 13, 25, 34, 0);
        columnsOf("9994" + "9", 0, 12, 24, 36, 0);
        columnsOf("9876" + "9", 0, 13, 24, 34, 0);
        // 7 8 9 9 leave seven blanks: 3, 2, 2; with an exact fit each gap has one
        columnsOf("7899" + "9", 0, 10, 20, 31, 0);
        columnsOf("99981" + "9", 0, 10, 20, 30, 39, 0);
        // the same in a second line
        columnsOf("9999" + "9866" + "9", 0, 11, 21, 31, 0, 13, 25, 34, 0);
        columnsOf("9999" + "7899" + "9", 0, 11, 21, 31, 0, 10, 20, 31, 0);
        RingedPage x = page(40, 20, 1, 0, 10, 10, "99999", "444", "");
        due("the only gap takes all", x.word(1, 1, 2), 6);
    }

    /** MAIN alone in 40 columns: the column of each word. */
    private static void columnsOf(String words, int... want) {
        RingedPage x = page(40, 20, 1, 2, 10, 10, words);
        for (int k = 0; k < want.length; k++) {
            due("column of word " + k + " of " + words, x.word(0, k, 2), want[k]);
        }
    }

    private static void spreadOfOneAndOfTheLast() {
        edge("Terms 1", "(of one WORD alone, of a TEXT's last PART: one blank between each two, the rest behind).");
        RingedPage x = page(40, 20, 1, 0, 10, 10, "9995", "66", "66");
        due("one word alone", x.word(1, 0, 2), 0);
        due("one word alone in OUTER", x.word(2, 0, 2), 30);
        due("the rest of it behind", x.at(0, 0, 36), -2);
        due("INNER's last part", x.word(1, 1, 2), 0);
        RingedPage y = page(40, 20, 1, 2, 10, 10, "1234");
        due("the last part", y.line(0, 0), 10);
        due("one blank between each two", signsOfRow(y), "1011011101111" + times("0", 27));
        RingedPage z = page(40, 20, 1, 2, 10, 10, "12349999");
        due("the same words, not the last ones", z.word(0, 1, 2) > 2, true);
    }

    private static void columnOfAWord() {
        edge("Terms 1", "COLUMN of a WORD: that of its first letter (0: the left end of the PAGE), blanks SPREAD out.");
        RingedPage x = page(40, 20, 4, 0, 10, 10, "5555", "55", "55");
        due("the left end", x.word(1, 0, 2), 0);
        // MAIN has 12 from 14 on: 5 and 5 with two blanks; its last part beside both again
        due("MAIN's first", x.word(0, 0, 2), 14);
        due("MAIN's second, its blanks spread", x.word(0, 1, 2), 21);
        due("OUTER's", x.word(2, 0, 2), 30);
        due("there is its first letter", x, x.at(0, 0, 21), 1, 0);
        due("and nothing ahead of it", x.at(0, 0, 20), -2);
    }

    private static void endOfAText() {
        edge("Terms 1", "END of a TEXT: PAGE times H, and the LINE, of its last WORD (-1 without WORDS).");
        RingedPage x = page(40, 3, 1, 0, 10, 10, times("9", 12));
        due("the last line of page 0", x.ends(0), 2);
        x.comes(0, 12, 9);
        due("the first line of page 1", x.ends(0), 3);
        words(x, 0, times("9", 17));
        due("the next one", x.ends(0), 4);
        words(x, 0, "9");
        due("the very first", x.ends(0), 0);
        due("without words", x.ends(1), -1);
        words(x, 0, "");
        due("without any words", x.ends(0), -1);
    }

    private static void endsApart() {
        edge("Terms 1", "ENDS APART: the greatest END less the least one, of TEXTS with WORDS (0 of one, of none).");
        due("of none", new RingedPage().apart(), 0);
        for (int t = 0; t < 3; t++) {
            String[] texts = {"", "", ""};
            texts[t] = times("9", 20);
            due("of one, " + t, page(40, 3, 1, 0, 10, 10, texts).apart(), 0);
        }
        // line 0: one of each; then INNER alone: 4, 1
        due("the greatest less the least", page(40, 3, 1, 0, 10, 10, "9", times("9", 6), "9").apart(), 2);
        due("one without words does not count", page(40, 3, 1, 0, 10, 10, "9", times("9", 6)).apart(), 2);
        // line 1 is MAIN's last: it is neither the first nor the last to end
        due("one between does not count", page(40, 3, 1, 0, 10, 10, "9999", times("9", 10), "9").apart(), 3);
        due("over a page", page(40, 3, 1, 0, 10, 10, "9", times("9", 14)).apart(), 4);
    }

    private static void tiesAtMost() {
        edge("Terms 1", "TIES: WORD k of INNER or OUTER is tied to WORD j of MAIN, 12 at most, numbered as told, "
            + "each WORD of a comment once.");
        RingedPage x = page(40, 20, 1, 2, 10, 10, "55", times("1", 13), times("1", 13));
        due("12", ties(x, "o1201i1101o1001i0901o0801i0701o0601i0501o0401i0301o0201i0101"), 12);
        due("numbered as told", tiesOf(x), "o12-1 i11-1 o10-1 i9-1 o8-1 i7-1 o6-1 i5-1 o4-1 i3-1 o2-1 i1-1");
        due("13", ties(x, "o1201i1101o1001i0901o0801i0701o0601i0501o0401i0301o0201i0101i0000"), -61);
        due("12 stay", x.count(8), 12);
        due("a word of a comment twice", ties(x, "i0100i0101"), -8);
        due("a word of each comment with the same number", ties(x, "i0100o0100"), 2);
        due("two to one word of MAIN", ties(x, "i0100i0000"), 2);
        due("the last word of each", ties(x, "i1201o1201"), 2);
    }

    private static void deepAndBroken() {
        edge("Terms 1", "A TIE is DEEP by the place (PAGE times H, and the LINE) of its WORD k less that of WORD j; "
            + "BROKEN, if that is below 0 or above 6.");
        // OUTER: word 0 beside MAIN in line 0, then four in each line: words 21 - 24 in line 6, 25 in line 7
        for (int h : new int[] {3, 40}) {
            RingedPage x = page(40, h, 1, 0, 9, 9, "1", "", times("9", 49));
            ties(x, "o0000o2400o2500o0100");
            due("0 deep, H " + h, x, x.tie(0), 0, 0, 2, 0, 0);
            due("6 deep, H " + h, x, x.tie(1), 6, 0, 2, 24, 0);
            due("7 deep, H " + h, x, x.tie(2), 7, 1, 2, 25, 0);
            due("1 deep, H " + h, x, x.tie(3), 1, 0, 2, 1, 0);
        }
        RingedPage y = page(40, 20, 1, 1, 9, 9, "1", "", "99999");
        ties(y, "o0300o0400");
        due("-1 deep", y, y.tie(0), -1, 1, 2, 3, 0);
        due("0 deep, below a crown", y, y.tie(1), 0, 0, 2, 4, 0);
    }

    private static void costWeighed() {
        edge("Terms 1", "COST of a PLAN: ENDS APART, BROKEN TIES, RAGGED of all PARTS together, each times its WEIGHT "
            + "(0 .. 10000, 0 .. 10000, 0 .. 100; at first 10000, 100, 1), added up.");
        due("at first", smallTied().cost(), 2 * 10000 + 2 * 100 + 3);
        int[] most = {10000, 10000, 100};
        for (int what = 0; what < 3; what++) {
            int w = what;
            RingedPage x = smallTied();
            for (int other = 0; other < 3; other++) {
                x.weighs(other, other == what ? most[what] : 0);
            }
            int[] parts = {2, 2, 3};
            due("one weight alone, " + what, x, x.cost(), parts[what] * most[what], 2, 2, 3);
            due("the most, " + what, x.count(13 + what), most[what]);
            refused("more than the most, " + what, Checks::busy, y -> y.weighs(w, most[w] + 1), NONE);
            refused("less than 0, " + what, Checks::busy, y -> y.weighs(w, -1), NONE);
            x.weighs(what, 0);
            due("no weight at all, " + what, x, x.cost(), 0, 2, 2, 3);
        }
        RingedPage x = page(60, 10, 1, 9, 40, 9, NINES, times("19", 35), NINES);
        ties(x, "o0069o0169o0269o0369o0469o0569i0069i0169i0269i0369i0469i0569");
        x.weighs(1, 10000);
        x.weighs(2, 100);
        int cost = x.cost();
        due("much of all", (long) cost, 10000 * x.row(0) + 10000 * x.row(1) + 100 * x.row(2));
        due("all ties are broken", x.row(1), 12L);
    }

    private static void gridAsFarAsItCanBe() {
        edge("Terms 1", "GRID: CROWNS from 0 to a most, SHARES of INNER and of OUTER from 9 on by a step, as far as they can be.");
        // W, H, GUTTER, most, step, how many
        int[][] cases = {{29, 20, 1, 0, 1, 1}, {29, 20, 1, 9, 1, 10}, {29, 3, 1, 9, 1, 3}, {29, 9, 1, 9, 9, 9}, {29, 10, 1, 9, 9, 10},
            {30, 20, 1, 0, 1, 3}, {30, 20, 1, 0, 2, 1}, {40, 20, 1, 0, 9, 3}, {40, 20, 1, 0, 1, 78}, {40, 20, 1, 0, 2, 21},
            {40, 20, 1, 0, 5, 6}, {40, 20, 1, 1, 5, 12}, {60, 20, 1, 0, 1, 528}, {60, 20, 1, 9, 1, 5280}, {60, 20, 4, 0, 1, 351},
            {60, 20, 1, 0, 9, 10}, {35, 20, 4, 3, 1, 4}};
        for (int[] c : cases) {
            RingedPage x = page(c[0], c[1], c[2], 0, 9, 9);
            String of = "W " + c[0] + ", H " + c[1] + ", GUTTER " + c[2] + ", to " + c[3] + " by " + c[4];
            due(of, x, x.best(c[3], c[4]), 0, 0, 9, 9, c[5]);
            due(of + ", near", x, x.near(c[3], c[4], 0), c[5], 0, 9, 9);
        }
        // OUTER has both words beside MAIN from a share of 19 on: by 5 that is 19, by 4 it is 21
        RingedPage x = page(60, 20, 1, 0, 9, 9, "9", "", "99");
        due("shares of the grid alone, by 5", x, x.best(0, 5), 0, 0, 9, 19, 28);
        due("shares of the grid alone, by 4", x, x.best(0, 4), 0, 0, 9, 21, 36);
    }

    private static void bestOfEqualOnes() {
        edge("Terms 1", "BEST: the PLAN of the GRID with the least COST; "
            + "of equal ones the least CROWN, then the least SHARE of INNER, then of OUTER.");
        due("all are equal", best(page(60, 20, 1, 5, 20, 20), 9, 1), "0: 0 9 9");
        // by a crown of 1 both comments stand over MAIN; without one 5 4 fill 10 columns and 4 7 4 fill 17
        RingedPage x = page(40, 20, 1, 2, 10, 10, "4742", "54", "36");
        due("equal, by a crown", x.by(1, 9, 9), 10000);
        due("equal, without one", x.by(0, 10, 11), 10000);
        due("the least crown, though its shares are greater", best(x, 2, 1), "10000: 0 10 11");
        // 1 7 5 1 fill 17 columns, or 1 7 5 fill 15 while 9 4 fill 14
        RingedPage y = page(40, 20, 1, 2, 10, 10, "175193", "94", "3");
        due("equal, by a wide OUTER", y.by(0, 9, 12), 10000);
        due("equal, by a narrow OUTER", y.by(0, 14, 9), 10000);
        due("the least share of INNER, though that of OUTER is greater", best(y, 2, 1), "10000: 0 9 12");
        RingedPage z = page(40, 20, 1, 2, 10, 10, "9", "9", "99");
        due("equal shares of OUTER", z.by(0, 9, 19), z.by(0, 9, 20));
        due("the least share of OUTER", best(z, 2, 1), "0: 0 9 19");
        for (RingedPage each : List.of(x, y, z)) {
            int[] first = plansByCost(each, 3, 1).get(0);
            due("the first of all by their costs", best(each, 3, 1), first[3] + ": " + first[0] + " " + first[1] + " " + first[2]);
        }
    }

    private static String best(RingedPage x, int most, int step) {
        return x.best(most, step) + ": " + x.row(0) + " " + x.row(1) + " " + x.row(2);
    }

    /** Each plan of the grid with its cost by by(), the best one first. */
    private static List<int[]> plansByCost(RingedPage x, int most, int step) {
        List<int[]> plans = new ArrayList<>();
        for (int outer = 40; outer >= 9; outer--) {
            for (int inner = 40; inner >= 9; inner--) {
                for (int crown = most; crown >= 0; crown--) {
                    if ((outer - 9) % step == 0 && (inner - 9) % step == 0 && inner + outer <= 29) {
                        plans.add(new int[] {crown, inner, outer, x.by(crown, inner, outer)});
                    }
                }
            }
        }
        plans.sort(Comparator.<int[]>comparingInt(p -> p[3]).thenComparingInt(p -> p[0]).thenComparingInt(p -> p[1])
            .thenComparingInt(p -> p[2]));
        return plans;
    }

    // ---- terms 2

    private static void rowToldLast() {
        edge("Terms 2", "ROW: numbers told last by a call that says so.");
        RingedPage x = smallTied();
        due("none at first", x.count(10), 0);
        x.cost();
        due("of cost()", rowOf(x), asList(2, 2, 3));
        x.pages();
        due("of pages(), and no more of cost()", rowOf(x), asList(1));
        x.line(0, 0);
        due("of line()", x.count(10), 40);
        x.apart();
        due("of apart(), and no more of line()", rowOf(x), asList(2, 0));
    }

    /** No call tells of a set: there is nothing to ask. */
    private static void setsAreBits() {
        edge("Terms 2", "Sets are bits (TEXT 0 is 1).");
    }

    private static void questionsChangeNothing() {
        edge("Terms 2", "Questions change nothing.");
        question("pages", Checks::busy, x -> x.pages());
        question("part", Checks::busy, x -> x.part(0, 0, 1));
        question("word", Checks::busy, x -> x.word(0, 0, 2));
        question("at", Checks::busy, x -> x.at(0, 0, 0));
        question("ends", Checks::busy, x -> x.ends(0));
        question("apart", Checks::busy, x -> x.apart());
        question("ragged", Checks::busy, x -> x.ragged());
        question("cost", Checks::busy, x -> x.cost());
        question("line", Checks::busy, x -> x.line(0, 0));
        question("blank", Checks::busy, x -> x.blank());
        question("tie", Checks::busy, x -> x.tie(0));
        question("broken", Checks::busy, x -> x.broken());
        question("loose", Checks::busy, x -> x.loose());
        question("by", Checks::busy, x -> x.by(0, 9, 9));
        question("best", Checks::busy, x -> x.best(4, 1));
        question("near", Checks::busy, x -> x.near(4, 1, 0));
        question("climbs", Checks::busy, x -> x.climbs());
        question("narrow", Checks::busy, x -> x.narrow(1));
        question("low", Checks::busy, x -> x.low(1));
        question("more", Checks::busy, x -> x.more(1, 0, 5));
        question("less", Checks::busy, x -> x.less(1, 0));
        question("spare", Checks::busy, x -> x.spare(1) + x.spare(2));
        question("years", Checks::busy, x -> x.years(7, 30));
        question("count", Checks::busy, x -> x.count(0));
        question("row", Checks::busy, x -> (int) x.row(0));
    }

    private static void refusedTexts() {
        edge("Terms 2", "Refused calls answer NONE, or false, and change nothing but THE TEXT, which a call that reads it empties.");
        refused("sign", () -> typed(times("1", 77)), x -> x.sign(0x31313131), NONE);
        refused("end", Checks::busy, x -> x.end(3) ? 1 : 0, 0);
        refused("end below 0", Checks::busy, x -> x.end(-1) ? 1 : 0, 0);
        refusedReading("words of no TEXT", Checks::busy, x -> x.words(3), NONE);
        refusedReading("words with a sign that can't stand there", () -> typed("40"), x -> x.words(0), -2);
        refusedReading("ties that are none", Checks::busy, x -> x.ties(), -1);
        refusedReading("ties, the second of which can't be", () -> typed("o0000o0000"), x -> x.ties(), -8);
        refusedReading("day that is none", Checks::busy, x -> x.day(), -1);
        refusedReading("day, the second act of which can't be read", () -> typed("w41z"), x -> x.day(), -4);
        refused("sheet of no TEXT", Checks::busy, x -> x.sheet(3, 0, 2, 1, 5, 0), NONE);
        refused("sheet of another kind", Checks::busy, x -> x.sheet(0, 0, 4, 1, 6, 0), NONE);
        refused("sheet of 71", Checks::busy, x -> x.sheet(0, 0, 2, 71, 6, 0), NONE);
        refused("sheet below 0", Checks::busy, x -> x.sheet(0, 0, 2, -1, 6, 0), -2);
        refused("sheet that is missing", Checks::busy, x -> x.sheet(0, 0, 3, 1, 6, 0), -3);
    }

    private static void refusedQuestions() {
        refused("part of no TEXT", Checks::busy, x -> x.part(0, 0, 3), NONE);
        refused("part of no PAGE", Checks::busy, x -> x.part(1, 0, 0), NONE);
        refused("part of no LINE", Checks::busy, x -> x.part(0, 5, 0), NONE);
        refused("at no column", Checks::busy, x -> x.at(0, 0, 40), NONE);
        refused("ends of no TEXT", Checks::busy, x -> x.ends(3), NONE);
        refused("line that is none", Checks::busy, x -> x.line(0, 5), NONE);
        refused("by what can't be", Checks::busy, x -> x.by(5, 10, 10), NONE);
        refused("best of another grid", Checks::busy, x -> x.best(10, 1), NONE);
        refused("near of another grid", Checks::busy, x -> x.near(0, 10, 0), NONE);
        refused("near of another n", Checks::busy, x -> x.near(0, 1, 100), NONE);
        refused("narrow", Checks::busy, x -> x.narrow(0), NONE);
        refused("low", Checks::busy, x -> x.low(10), NONE);
        refused("more", Checks::busy, x -> x.more(0, 4, 5), NONE);
        refused("less", Checks::busy, x -> x.less(0, 3), NONE);
        refused("spare", Checks::busy, x -> x.spare(0), NONE);
        refused("years", Checks::busy, x -> x.years(1, 31), NONE);
        refused("word", Checks::busy, x -> wordThrows(x, 0, 3, 0) ? 1 : 0, 1);
        refused("tie", Checks::busy, x -> tieThrows(x, 1) ? 1 : 0, 1);
        refused("row", Checks::busy, x -> rowThrows(x, 3) ? 1 : 0, 1);
        refused("count", Checks::busy, x -> x.count(16), NONE);
    }

    private static void refusedChanges() {
        refused("sets of another", Checks::busy, x -> x.sets(3, 3), NONE);
        refused("sets as it is", Checks::busy, x -> x.sets(0, 40), -2);
        refused("sets as can't be", Checks::busy, x -> x.sets(0, 29), -3);
        refused("weighs of another", Checks::busy, x -> x.weighs(3, 3), NONE);
        refused("weighs as it is", Checks::busy, x -> x.weighs(2, 3), -2);
        refused("swaps of none", EdgeTermsTest::withoutComments, x -> x.swaps(), -2);
        refused("plans as it is", Checks::busy, x -> x.plans(2, 10, 10), -2);
        refused("plans as can't be", Checks::busy, x -> x.plans(5, 10, 10), NONE);
        refused("takesBest of another grid", Checks::busy, x -> x.takesBest(0, 0), NONE);
        refused("takesBest as it is", EdgeTermsTest::atItsBest, x -> x.takesBest(0, 9), -2);
        refused("comes of no TEXT", Checks::busy, x -> x.comes(3, 0, 5), NONE);
        refused("goes of no WORD", Checks::busy, x -> x.goes(2, 1), NONE);
        refused("undo of nothing", Checks::withoutPast, x -> x.undo(), NONE);
        refused("keep", Checks::busy, x -> x.keep(2) ? 1 : 0, 0);
        refused("again", Checks::busy, x -> x.again(1) ? 1 : 0, 0);
    }

    private static RingedPage withoutComments() {
        RingedPage x = busy();
        x.goes(1, 1);
        x.goes(1, 0);
        x.goes(2, 0);
        return x;
    }

    private static RingedPage atItsBest() {
        RingedPage x = busy();
        due("it was not yet the best", x.takesBest(0, 9) >= 0, true);
        return x;
    }

    private static void noneComesAhead() {
        edge("Terms 2", "NONE comes ahead of other answers below 0;");
        refusedReading("words of no TEXT, with a wrong sign", () -> typed("123x"), x -> x.words(3), NONE);
        refused("sheet of no TEXT that is missing", Checks::busy, x -> x.sheet(-1, 0, 3, -1, 0, 0), NONE);
        refused("sheet of another kind below 0", Checks::busy, x -> x.sheet(0, 0, 4, -1, 0, 0), NONE);
        refused("sheet of 71 that is missing", Checks::busy, x -> x.sheet(0, 0, 3, 71, 0, 0), NONE);
        refused("sheet of 71 entries that can't be", Checks::busy, x -> x.sheet(0, -1, 2, 71, 0, 0), NONE);
        refused("part of no TEXT in a line without parts", Checks::busy, x -> x.part(0, 4, 3), NONE);
        refused("at no column of a line without parts", Checks::busy, x -> x.at(0, 4, -1), NONE);
        refused("more of no SIZE, with 70", Checks::full, x -> x.more(1, 0, 10), NONE);
        refused("more of no place, with 70", Checks::full, x -> x.more(1, 71, 1), NONE);
        refused("comes of no SIZE, with 70", Checks::full, x -> x.comes(1, 70, 0), NONE);
        refused("comes of no place, with 70", Checks::full, x -> x.comes(1, -1, 1), NONE);
        refused("spare of another, without PAGES", RingedPage::new, x -> x.spare(3), NONE);
        refused("sets W to what never can be", Checks::busy, x -> x.sets(0, 0), NONE);
        refused("sets H to what never can be", Checks::busy, x -> x.sets(1, 0), NONE);
        refused("takesBest of another grid, where it is that", EdgeTermsTest::atItsBest, x -> x.takesBest(-1, 9), NONE);
    }

    private static void rowStaysWithRefusals() {
        edge("Terms 2", "the ROW stays with each answer that tells of a refusal or that there is none,");
        refused("part that there is none", Checks::busy, x -> x.part(0, 0, 0), -2);
        refused("part in a line without parts", Checks::busy, x -> x.part(0, 4, 0), -2);
        refused("at a blank", Checks::busy, x -> x.at(0, 0, 4), -2);
        refused("spare without PAGES", Checks::withARow, x -> x.spare(1), -2);
        refused("narrow that there is none", EdgeTermsTest::seventyLines, x -> x.narrow(1), -2);
        refused("low that there is none", EdgeTermsTest::seventyLines, x -> x.low(1), -2);
        refused("more with 70", EdgeTermsTest::seventyLines, x -> x.more(0, 0, 1), -3);
        refused("comes with 70", EdgeTermsTest::seventyLines, x -> x.comes(0, 0, 1), -3);
    }

    /** Lines enough for no single page: not by the greatest H, nor by the greatest W and H 3. */
    private static RingedPage seventyLines() {
        RingedPage x = page(29, 3, 1, 0, 9, 9, NINES, NINES, NINES);
        x.cost();
        return x;
    }

    private static void rowStaysWithCallsThatDoNotTell() {
        edge("Terms 2", "and with calls that do not tell of it, but where it is said.");
        RingedPage x = smallTied();
        x.cost();
        List<Long> row = rowOf(x);
        x.sign(0x31323334);
        x.end(2);
        x.words(2);
        due("texts", rowOf(x), row);
        ties(x, "i0000");
        x.sheet(0, 0, 2, 1, 1, 0);
        due("ties, sheet", rowOf(x), row);
        x.word(0, 0, 2);
        x.more(0, 0, 1);
        x.less(0, 0);
        due("word, more, less", rowOf(x), row);
        x.sets(1, 4);
        x.weighs(0, 1);
        x.swaps();
        x.plans(2, 9, 9);
        due("sets, weighs, swaps, plans", rowOf(x), row);
        due("it is done", x.takesBest(0, 9) >= 0, true);
        x.comes(0, 0, 5);
        x.goes(0, 0);
        x.undo();
        due("takesBest, comes, goes, undo", rowOf(x), row);
        x.keep(0);
        x.again(0);
        x.count(0);
        x.row(0);
        due("keep, again, count, row", rowOf(x), row);
        // where it is said: ends() of a TEXT without WORDS, near() without such a plan
        RingedPage y = page(60, 20, 1, 0, 9, 9, "", times("9", 13), "9");
        y.cost();
        due("ends() without words", y, y.ends(0), NONE, 0, 0);
        due("near() without such plans", y, y.near(0, 9, 0), 0);
    }
}
