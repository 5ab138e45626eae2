/** The edges that promises 7 to 19 name: how all is set, and ties. */
public final class EdgeSetTest extends Checks {
    private static final String NINES = times("9", 70);

    public static void main(String[] args) {
        pages();
        part();
        partThatThereIsNot();
        partOfNone();
        word();
        wordThrown();
        at();
        atNothing();
        atNone();
        ends();
        endsOfNone();
        endsWithoutWords();
        apart();
        apartFirst();
        apartLast();
        ragged();
        raggedFirst();
        raggedNoughts();
        cost();
        line();
        lineOfNone();
        blank();
        blankOfTheLastPage();
        tie();
        tieThrown();
        broken();
        brokenTogether();
        loose();
        finishParts("Promise 7", "Promise 8", "Promise 9", "Promise 10", "Promise 11", "Promise 12", "Promise 13", "Promise 14",
            "Promise 15", "Promise 16", "Promise 17", "Promise 18", "Promise 19");
    }

    /** Three texts of 70 words that have one word each in every line. */
    private static RingedPage seventyLines(int h) {
        return page(29, h, 1, 0, 9, 9, NINES, NINES, NINES);
    }

    // ---- promise 7

    private static void pages() {
        edge("Promise 7", "How many PAGES; the ROW: LINES of the last one that have a PART (0 without).");
        RingedPage x = new RingedPage();
        due("without", x, x.pages(), 0, 0);
        words(x, 0, "1");
        due("one word", x, x.pages(), 1, 1);
        words(x, 0, "");
        due("without again", x, x.pages(), 0, 0);
        // four words in each line of 40
        int[][] cases = {{4, 1, 1}, {5, 1, 2}, {8, 1, 2}, {9, 1, 3}, {12, 1, 3}, {13, 2, 1}, {24, 2, 3}, {25, 3, 1}, {70, 6, 3}};
        for (int[] c : cases) {
            RingedPage y = page(40, 3, 1, 0, 10, 10, times("9", c[0]));
            due(c[0] + " words", y, y.pages(), c[1], c[2]);
        }
        RingedPage z = seventyLines(40);
        due("70 lines, H 40", z, z.pages(), 2, 30);
        z.sets(1, 35);
        due("70 lines, H 35", z, z.pages(), 2, 35);
        z.sets(1, 3);
        due("70 lines, H 3", z, z.pages(), 24, 1);
        RingedPage crowned = page(40, 3, 1, 2, 10, 10, "", "9", "9");
        due("a line of comments alone", crowned, crowned.pages(), 1, 1);
    }

    // ---- promise 8

    private static void part() {
        edge("Promise 8", "The PART of a TEXT in a LINE of a PAGE: how many WORDS; "
            + "the ROW: the first WORD, its width, the column at which it begins, RAGGED.");
        RingedPage x = small();
        due("the first line", x, x.part(0, 0, 1), 4, 0, 19, 0, 0);
        due("OUTER of the first line", x, x.part(0, 0, 2), 2, 0, 20, 20, 1);
        due("the last line of a page", x, x.part(0, 2, 0), 5, 3, 29, 11, 0);
        due("the last page", x, x.part(1, 0, 0), 4, 8, 40, 0, 0);
        RingedPage y = seventyLines(3);
        due("the last line of all", y, y.part(23, 0, 2), 1, 69, 9, 20, 0);
        RingedPage z = page(29, 3, 1, 0, 9, 9, times("1", 70));
        due("as many words as go into a line", z, z.part(0, 0, 0), 15, 0, 29, 0, 0);
    }

    private static void partThatThereIsNot() {
        edge("Promise 8", "-2: it has none there;");
        refused("MAIN in the crown", EdgeSetTest::told, x -> x.part(0, 0, 0), -2);
        refused("OUTER, which has ended", EdgeSetTest::told, x -> x.part(0, 2, 2), -2);
        refused("INNER, which has ended on the page before", EdgeSetTest::told, x -> x.part(1, 0, 1), -2);
        refused("behind all", EdgeSetTest::told, x -> x.part(1, 1, 0), -2);
        refused("the last line of the last page", EdgeSetTest::told, x -> x.part(1, 2, 0), -2);
        RingedPage x = page(40, 40, 1, 0, 10, 10, "9");
        due("a TEXT without words", x.part(0, 0, 1), -2);
        RingedPage shorter = page(40, 20, 1, 0, 10, 10, times("9", 12), "99");
        due("there were four lines", shorter, shorter.pages(), 1, 4);
        words(shorter, 0, "9999");
        words(shorter, 1, "");
        due("nothing is left of what was set before, MAIN", shorter.part(0, 1, 0), -2);
        due("nothing is left of what was set before, INNER", shorter.part(0, 0, 1), -2);
        due("the last of 40 lines", x.part(0, 39, 0), -2);
    }

    /** The small one with a ROW; it is undone to nothing in a few steps. */
    private static RingedPage told() {
        RingedPage x = small();
        x.cost();
        return x;
    }

    private static void partOfNone() {
        edge("Promise 8", "NONE: no such TEXT, PAGE, LINE.");
        for (int which : NO_TEXTS) {
            refused("TEXT " + which, EdgeSetTest::told, x -> x.part(0, 0, which), NONE);
        }
        for (int p : new int[] {-1, 2, MIN, MAX}) {
            refused("PAGE " + p, EdgeSetTest::told, x -> x.part(p, 0, 0), NONE);
        }
        for (int l : new int[] {-1, 3, MIN, MAX}) {
            refused("LINE " + l, EdgeSetTest::told, x -> x.part(0, l, 0), NONE);
            refused("LINE " + l + " of the second PAGE", EdgeSetTest::told, x -> x.part(1, l, 0), NONE);
        }
        due("nothing is set", new RingedPage().part(0, 0, 0), NONE);
        RingedPage x = page(40, 3, 1, 0, 10, 10, times("9", 12));
        due("behind a full page", x.part(1, 0, 0), NONE);
    }

    // ---- promise 9

    private static void word() {
        edge("Promise 9", "Of a WORD of a TEXT, what 0: PAGE, 1: LINE, 2: COLUMN, 3: SIZE, 4: which of its PART it is (0, 1, ..).");
        // TEXT, WORD, then the five answers
        int[][] cases = {{1, 0, 0, 0, 0, 4, 0}, {1, 3, 0, 0, 15, 4, 3}, {1, 7, 0, 2, 5, 4, 1}, {0, 0, 0, 1, 11, 5, 0},
            {0, 2, 0, 1, 24, 5, 2}, {0, 3, 0, 2, 11, 5, 0}, {0, 7, 0, 2, 35, 5, 4}, {0, 8, 1, 0, 0, 5, 0}, {0, 11, 1, 0, 18, 5, 3},
            {2, 0, 0, 0, 20, 9, 0}, {2, 1, 0, 0, 31, 9, 1}, {2, 2, 0, 1, 30, 9, 0}};
        RingedPage x = small();
        for (int[] c : cases) {
            for (int what = 0; what < 5; what++) {
                due("TEXT " + c[0] + ", WORD " + c[1] + ", what " + what, x.word(c[0], c[1], what), c[2 + what]);
            }
        }
        RingedPage y = seventyLines(3);
        due("the 70th word's page", y.word(2, 69, 0), 23);
        due("the 70th word's line", y.word(2, 69, 1), 0);
        RingedPage z = page(29, 40, 1, 0, 9, 9, times("1", 70));
        due("the fifteenth of its part", z.word(0, 14, 4), 14);
        due("its column, at the right end", z.word(0, 14, 2), 28);
        due("the first of the next part", z.word(0, 15, 4), 0);
    }

    private static void wordThrown() {
        edge("Promise 9", "NoSuchElementException: none such, another what.");
        int[][] none = {{0, 12, 0}, {1, 8, 0}, {2, 3, 0}, {0, -1, 0}, {0, MIN, 0}, {0, MAX, 0}, {-1, 0, 0}, {3, 0, 0}, {MIN, 0, 0}, {MAX, 0, 0},
            {0, 0, -1}, {0, 0, 5}, {0, 0, MIN}, {0, 0, MAX}};
        for (int[] c : none) {
            refused("TEXT " + c[0] + ", WORD " + c[1] + ", what " + c[2], EdgeSetTest::told,
                x -> wordThrows(x, c[0], c[1], c[2]) ? 1 : 0, 1);
        }
        RingedPage x = seventyLines(40);
        due("WORD 69 of 70", wordThrows(x, 0, 69, 4), false);
        due("WORD 70 of 70", wordThrows(x, 0, 70, 4), true);
        due("a TEXT without words", wordThrows(new RingedPage(), 0, 0, 0), true);
    }

    // ---- promise 10

    private static void at() {
        edge("Promise 10", "What stands at a column of a LINE of a PAGE: 100 times the TEXT, and its WORD; "
            + "the ROW: which letter of it (0, 1, ..).");
        RingedPage x = small();
        due("the first column", x, x.at(0, 0, 0), 100, 0);
        due("the last column", x, x.at(0, 0, 39), 201, 8);
        due("a first letter", x, x.at(0, 1, 18), 1, 0);
        due("a last letter", x, x.at(0, 1, 22), 1, 4);
        due("MAIN's first word", x, x.at(0, 1, 11), 0, 0);
        due("the last page", x, x.at(1, 0, 22), 11, 4);
        RingedPage y = seventyLines(3);
        due("the 70th word of OUTER", y, y.at(23, 0, 28), 269, 8);
        due("the 70th word of INNER", y, y.at(23, 0, 0), 169, 0);
        due("the 70th word of MAIN", y, y.at(23, 0, 10), 69, 0);
        RingedPage z = page(60, 3, 1, 0, 9, 9, "9", "", "1");
        due("a word of one letter", z, z.at(0, 0, 51), 200, 0);
    }

    private static void atNothing() {
        edge("Promise 10", "-2: nothing;");
        refused("between two words", EdgeSetTest::told, x -> x.at(0, 1, 23), -2);
        refused("between two parts", EdgeSetTest::told, x -> x.at(0, 0, 19), -2);
        refused("behind a part's words", EdgeSetTest::told, x -> x.at(0, 1, 39), -2);
        refused("behind all words of a line", EdgeSetTest::told, x -> x.at(1, 0, 23), -2);
        refused("a line behind all", EdgeSetTest::told, x -> x.at(1, 1, 0), -2);
        refused("the last column of the last line", EdgeSetTest::told, x -> x.at(1, 2, 39), -2);
    }

    private static void atNone() {
        edge("Promise 10", "NONE: no such PAGE, LINE, column.");
        for (int p : new int[] {-1, 2, MIN, MAX}) {
            refused("PAGE " + p, EdgeSetTest::told, x -> x.at(p, 0, 0), NONE);
        }
        for (int l : new int[] {-1, 3, MIN, MAX}) {
            refused("LINE " + l, EdgeSetTest::told, x -> x.at(0, l, 0), NONE);
            refused("LINE " + l + " of the second PAGE", EdgeSetTest::told, x -> x.at(1, l, 0), NONE);
        }
        for (int c : new int[] {-1, 40, MIN, MAX}) {
            refused("column " + c, EdgeSetTest::told, x -> x.at(0, 0, c), NONE);
        }
        due("nothing is set", new RingedPage().at(0, 0, 0), NONE);
        RingedPage x = page(29, 3, 1, 0, 9, 9, "999");
        due("the last column of 29", x.at(0, 0, 28), 2);
        due("column 29 of 29", x.at(0, 0, 29), NONE);
        RingedPage y = page(60, 3, 1, 0, 9, 9, "999");
        due("the last column of 60", y.at(0, 0, 59), -2);
        due("column 60 of 60", y.at(0, 0, 60), NONE);
    }

    // ---- promise 11

    private static void ends() {
        edge("Promise 11", "END of a TEXT; the ROW: its PARTS, RAGGED of these together.");
        RingedPage x = small();
        due("MAIN, on the second page", x, x.ends(0), 3, 3, 1);
        due("INNER", x, x.ends(1), 2, 3, 1);
        due("OUTER", x, x.ends(2), 1, 2, 1);
        RingedPage y = seventyLines(3);
        due("70 parts", y, y.ends(0), 69, 70, 0);
        RingedPage z = page(29, 3, 1, 0, 9, 9, "1");
        due("one part", z, z.ends(0), 0, 1, 0);
    }

    private static void endsOfNone() {
        edge("Promise 11", "NONE: no such TEXT");
        for (int which : NO_TEXTS) {
            refused("TEXT " + which, EdgeSetTest::told, x -> x.ends(which), NONE);
            refused("TEXT " + which + ", without words", RingedPage::new, x -> x.ends(which), NONE);
        }
    }

    private static void endsWithoutWords() {
        edge("Promise 11", "(END is NONE without WORDS, too: the ROW is two noughts then).");
        RingedPage x = page(40, 20, 1, 2, 10, 10, "9");
        x.cost();
        due("INNER without words", x, x.ends(1), NONE, 0, 0);
        x.cost();
        due("OUTER without words", x, x.ends(2), NONE, 0, 0);
        due("MAIN with one", x, x.ends(0), 0, 1, 0);
        x.goes(0, 0);
        due("MAIN without words", x, x.ends(0), NONE, 0, 0);
    }

    // ---- promise 12

    private static void apart() {
        edge("Promise 12", "ENDS APART; the ROW:");
        RingedPage x = small();
        due("two apart", x, x.apart(), 2, 2, 0);
        RingedPage y = page(40, 20, 1, 0, 10, 10, "9", "9", "9");
        due("together", y, y.apart(), 0, 0, 0);
    }

    private static void apartFirst() {
        edge("Promise 12", "the TEXT that ENDS first (of equal ones the first; NONE without WORDS),");
        RingedPage x = new RingedPage();
        due("without words", x, x.apart(), 0, NONE, NONE);
        firstAndLast("all together", 0, "9", "9", "9", 0, 0, 0);
        firstAndLast("INNER and OUTER first", 1, "9", "9", "9", 1, 1, 0);
        firstAndLast("MAIN and OUTER first", 0, "9", "99", "9", 1, 0, 1);
        firstAndLast("MAIN and INNER first", 0, "9", "9", "99", 1, 0, 2);
        firstAndLast("OUTER alone first", 1, "9", "999", "9", 1, 2, 0);
        firstAndLast("INNER before OUTER", 0, "", "9", "9999", 1, 1, 2);
        firstAndLast("OUTER alone", 0, "", "", "9", 0, 2, 2);
        firstAndLast("INNER alone", 0, "", "9", "", 0, 1, 1);
    }

    private static void apartLast() {
        edge("Promise 12", "last (likewise).");
        // beside both comments MAIN has one word of 9 in a line, each comment one
        firstAndLast("INNER and OUTER last", 0, "9", "99", "99", 1, 0, 1);
        firstAndLast("MAIN and OUTER last", 0, "99", "9", "99", 1, 1, 0);
        firstAndLast("MAIN and INNER last", 0, "99", "99", "9", 1, 2, 0);
        firstAndLast("OUTER alone last", 0, "9", "99", "9999999", 2, 0, 2);
        firstAndLast("INNER alone last", 0, "9", "9999999", "99", 2, 0, 1);
        firstAndLast("INNER before MAIN", 1, "9", "9", "", 1, 1, 0);
    }

    private static void firstAndLast(String what, int crown, String main, String inner, String outer, int apart, int first, int last) {
        RingedPage x = page(40, 20, 1, crown, 10, 10, main, inner, outer);
        due(what, x, x.apart(), apart, first, last);
    }

    // ---- promise 13

    private static void ragged() {
        edge("Promise 13", "RAGGED of all PARTS together;");
        RingedPage x = small();
        due("three parts of 1", x, x.ragged(), 3, 1, 0, 0, 2);
        RingedPage y = page(29, 20, 1, 0, 9, 9, "19", "19", "19");
        due("three parts of 64", y, y.ragged(), 192, 64, 0, 0, 0);
        due("those of one TEXT", y, y.ends(2), 1, 2, 64);
    }

    private static void raggedFirst() {
        edge("Promise 13", "the ROW: the greatest of one, PAGE, LINE, TEXT of the first such one (by PAGES, LINES, TEXTS;");
        // each TEXT has 9 columns: 1 ahead of 9 leaves 8, 2 ahead of 9 leaves 7
        greatest("MAIN of all three", 192, "64 0 0 0", "19", "19", "19");
        greatest("INNER of two", 128, "64 0 0 1", "99", "19", "19");
        greatest("OUTER alone", 64, "64 0 0 2", "99", "99", "19");
        greatest("OUTER in a line before MAIN", 128, "64 0 0 2", "919", "999", "199");
        greatest("OUTER in a line before INNER", 128, "64 0 0 2", "999", "919", "199");
        greatest("a greater one behind", 49 + 64, "64 0 1 0", "919", "299", "999");
        greatest("a lesser one behind", 49 + 64, "64 0 0 1", "929", "199", "999");
        greatest("on the second page", 64, "64 1 0 1", "99999", "99919", "99999");
        greatest("on both pages", 128, "64 0 2 2", "999199", "999999", "991999");
        RingedPage x = page(40, 3, 1, 0, 10, 10, times("9", 20));
        due("one of each line but the last", x, x.ragged(), 4, 1, 0, 0, 0);
    }

    private static void greatest(String what, int all, String row, String... texts) {
        RingedPage x = page(29, 3, 1, 0, 9, 9, texts);
        due(what, x.ragged(), all);
        due(what + ", the ROW", x.row(0) + " " + x.row(1) + " " + x.row(2) + " " + x.row(3), row);
        due(what + ", four numbers", x.count(10), 4);
    }

    private static void raggedNoughts() {
        edge("Promise 13", "four noughts if all are 0).");
        RingedPage x = new RingedPage();
        due("without words", x, x.ragged(), 0, 0, 0, 0, 0);
        words(x, 2, "1");
        due("a last part alone", x, x.ragged(), 0, 0, 0, 0, 0);
        RingedPage y = page(29, 3, 1, 0, 9, 9, times("9", 14));
        due("parts without a blank left, on two pages", y, y.ragged(), 0, 0, 0, 0, 0);
        due("there are two pages", y.pages(), 2);
        RingedPage changed = page(29, 3, 1, 0, 9, 9, "99", "19");
        due("64 of INNER", changed, changed.ragged(), 64, 64, 0, 0, 1);
        words(changed, 1, "");
        due("nothing is left of it", changed, changed.ragged(), 0, 0, 0, 0, 0);
    }

    // ---- promise 14

    private static void cost() {
        edge("Promise 14", "COST; the ROW: ENDS APART, BROKEN TIES, RAGGED.");
        RingedPage x = new RingedPage();
        due("without words", x, x.cost(), 0, 0, 0, 0);
        RingedPage y = smallTied();
        due("of all three", y, y.cost(), 20203, 2, 2, 3);
        for (int what = 0; what < 3; what++) {
            y.weighs(what, 0);
        }
        due("without weights", y, y.cost(), 0, 2, 2, 3);
    }

    // ---- promise 15

    private static void line() {
        edge("Promise 15", "A LINE of a PAGE as it is read: how many letters; "
            + "the ROW: of each column 0, or 1 more than the TEXT of which a letter stands there.");
        RingedPage x = small();
        due("letters", x.line(0, 1), 32);
        due("columns", signsOfRow(x), "2222002222" + "0" + "111110011111011111" + "0" + "3333333330");
        due("behind all", x.line(1, 2), 0);
        due("noughts", signsOfRow(x), times("0", 40));
        RingedPage narrow = page(29, 3, 1, 0, 9, 9, "999");
        due("without a blank left", narrow.line(0, 0), 27);
        due("29 columns", signsOfRow(narrow), "11111111101111111110111111111");
        RingedPage wide = page(60, 3, 1, 0, 9, 9, "", "", "1");
        due("one letter", wide.line(0, 0), 1);
        due("60 columns", signsOfRow(wide), "3" + times("0", 59));
    }

    private static void lineOfNone() {
        edge("Promise 15", "NONE: no such PAGE, LINE.");
        for (int p : new int[] {-1, 2, MIN, MAX}) {
            refused("PAGE " + p, EdgeSetTest::told, x -> x.line(p, 0), NONE);
        }
        for (int l : new int[] {-1, 3, MIN, MAX}) {
            refused("LINE " + l, EdgeSetTest::told, x -> x.line(0, l), NONE);
            refused("LINE " + l + " of the second PAGE", EdgeSetTest::told, x -> x.line(1, l), NONE);
        }
        due("nothing is set", new RingedPage().line(0, 0), NONE);
        RingedPage x = page(40, 40, 1, 0, 10, 10, "9");
        due("line 39 of 40", x.line(0, 39), 0);
        due("line 40 of 40", x.line(0, 40), NONE);
    }

    // ---- promise 16

    private static void blank() {
        edge("Promise 16", "How many columns of all LINES of all PAGES (those behind the last PART, too) have no letter;");
        RingedPage x = new RingedPage();
        due("without pages", x, x.blank(), 0, 0);
        words(x, 0, "1");
        due("one letter", x, x.blank(), 799, 799);
        RingedPage y = page(29, 3, 1, 0, 9, 9, times("9", 9));
        due("a page without room", y, y.blank(), 6, 6);
        RingedPage z = page(60, 40, 1, 0, 9, 9, "1");
        due("the largest page", z, z.blank(), 2399, 2399);
        due("two pages", small().blank(), 240 - 60 - 32 - 27);
    }

    private static void blankOfTheLastPage() {
        edge("Promise 16", "the ROW: of the last PAGE alone.");
        RingedPage x = small();
        due("of two", x, x.blank(), 121, 100);
        RingedPage y = page(29, 3, 1, 0, 9, 9, times("9", 10));
        due("one word on it", y, y.blank(), 6 + 78, 78);
        RingedPage z = seventyLines(35);
        due("a full one", z, z.blank(), 2 * 35 * 2, 35 * 2);
        z.sets(1, 3);
        due("a line on it, of 24", z, z.blank(), 70 * 2 + 2 * 29, 2 + 2 * 29);
    }

    // ---- promise 17

    private static void tie() {
        edge("Promise 17", "By how much a TIE is DEEP; the ROW: 1 if it is BROKEN, else 0, its comment (1, 2), k, j.");
        RingedPage x = smallTied();
        due("above its word", x, x.tie(0), -1, 1, 1, 0, 0);
        due("beside its word", x, x.tie(1), 0, 0, 1, 7, 3);
        due("of OUTER, on another page", x, x.tie(2), -2, 1, 2, 2, 8);
        RingedPage y = page(40, 3, 1, 0, 9, 9, "1", times("9", 49));
        ties(y, "i2400i2500i0000");
        due("6 deep", y, y.tie(0), 6, 0, 1, 24, 0);
        due("7 deep", y, y.tie(1), 7, 1, 1, 25, 0);
        due("0 deep", y, y.tie(2), 0, 0, 1, 0, 0);
        RingedPage z = seventyLines(40);
        ties(z, "o0069o6900");
        due("as far above as can be", z, z.tie(0), -69, 1, 2, 0, 69);
        due("as far below as can be", z, z.tie(1), 69, 1, 2, 69, 0);
    }

    private static void tieThrown() {
        edge("Promise 17", "NoSuchElementException: none such (the ROW stays).");
        for (int i : new int[] {-1, 1, MIN, MAX}) {
            refused("tie " + i, Checks::busy, x -> tieThrows(x, i) ? 1 : 0, 1);
        }
        due("without ties", tieThrows(new RingedPage(), 0), true);
        RingedPage x = page(40, 20, 1, 2, 10, 10, "55", times("1", 12));
        ties(x, "i0000i0100i0200i0300i0400i0500i0600i0700i0800i0900i1000i1100");
        due("the twelfth", tieThrows(x, 11), false);
        due("no thirteenth", tieThrows(x, 12), true);
        x.goes(1, 11);
        due("the twelfth went", tieThrows(x, 11), true);
    }

    // ---- promise 18

    private static void broken() {
        edge("Promise 18", "How many TIES are BROKEN; the ROW: the first (NONE without),");
        RingedPage x = new RingedPage();
        due("without ties", x, x.broken(), 0, NONE, 0);
        RingedPage y = smallTied();
        due("the first of two", y, y.broken(), 2, 0, -3);
        ties(y, "i0703o0208");
        due("the second of two", y, y.broken(), 1, 1, -2);
        ties(y, "i0703");
        due("none of one", y, y.broken(), 0, NONE, 0);
        RingedPage z = page(40, 20, 1, 1, 9, 9, "1", times("1", 12));
        ties(z, "i0000i0100i0200i0300i0400i0500i0600i0700i0800i0900i1000i1100");
        due("all twelve", z, z.broken(), 12, 0, -12);
    }

    private static void brokenTogether() {
        edge("Promise 18", "by how much all TIES are DEEP together.");
        RingedPage x = page(40, 20, 1, 0, 9, 9, "1", times("9", 49));
        ties(x, "i2400i2500i0000");
        due("broken and others", x, x.broken(), 1, 1, 13);
        ties(x, "i2400i0000i2100");
        due("none broken", x, x.broken(), 0, NONE, 12);
        RingedPage y = seventyLines(40);
        ties(y, "o0069i6900");
        due("above and below", y, y.broken(), 2, 0, 0);
    }

    // ---- promise 19

    private static void loose() {
        edge("Promise 19", "WORDS of MAIN to which no WORD is tied: how many; the ROW: the first such one (NONE without).");
        RingedPage x = new RingedPage();
        due("without words", x, x.loose(), 0, NONE);
        words(x, 1, "11");
        due("without words of MAIN", x, x.loose(), 0, NONE);
        words(x, 0, "55");
        due("both", x, x.loose(), 2, 0);
        ties(x, "i0000");
        due("the second", x, x.loose(), 1, 1);
        ties(x, "i0001i0101");
        due("two to one word", x, x.loose(), 1, 0);
        ties(x, "i0001i0100");
        due("none", x, x.loose(), 0, NONE);
        RingedPage y = seventyLines(40);
        due("70", y, y.loose(), 70, 0);
        ties(y, "o6900");
        due("69", y, y.loose(), 69, 1);
    }
}
