import java.util.ArrayList;
import java.util.Arrays;
import java.util.List;

/**
 * Each promise of the document: ordinary inputs, edges, wrong inputs. Answers were worked out by hand, or, for
 * searches and for what would be, come from other calls that must agree.
 */
public final class PromiseTest extends Checks {
    public static void main(String[] args) {
        promise1New();
        promise2Sign();
        promise3End();
        promise4Words();
        promise5Ties();
        promise5TiesThatCannotBe();
        promise6Sheet();
        promise6SheetRefused();
        promise7Pages();
        promise8Part();
        promise8Widths();
        promise8CrownAlone();
        promise8CrownOfEachPage();
        promise9Word();
        promise9Spread();
        promise10At();
        promise11Ends();
        promise12Apart();
        promise13Ragged();
        promise14Cost();
        promise15Line();
        promise16Blank();
        promise17Tie();
        promise17Depths();
        promise18Broken();
        promise19Loose();
        promise20By();
        promise21Best();
        promise21Equals();
        promise22Near();
        promise23Climbs();
        promise24Narrow();
        promise25Low();
        promise26More();
        promise27Less();
        promise28Spare();
        promise29Sets();
        promise30Weighs();
        promise31Swaps();
        promise32Plans();
        promise33TakesBest();
        promise34Comes();
        promise35Goes();
        promise36Day();
        promise36DayThatStops();
        promise36DayThatCannotBeRead();
        promise37Undo();
        promise37EachKind();
        promise38Years();
        promise39Keep();
        promise40Again();
        promise41Count();
        promise42Row();
        rowStaysWhereNothingIsTold();
        finish();
    }

    // ---- texts

    private static void promise1New() {
        RingedPage x = new RingedPage();
        int[] want = {40, 20, 2, 10, 10, 0, 0, 0, 0, 0, 0, 0, 1, 10000, 100, 1};
        for (int i = 0; i < want.length; i++) {
            due("new: count " + i, x.count(i), want[i]);
        }
        due("new: pages", x, x.pages(), 0, 0);
        due("new: cost", x, x.cost(), 0, 0, 0, 0);
        due("NONE", RingedPage.NONE, -1);
    }

    private static void promise2Sign() {
        RingedPage x = new RingedPage();
        due("sign: first", x.sign(0x31323334), 4);
        due("sign: second", x.sign(0x35363738), 8);
        due("sign: as words, highest byte first", x.words(0), 8);
        due("sign: their order", wordsOf(x, 0), "12345678");
        for (int i = 1; i <= 20; i++) {
            due("sign: " + i, x.sign(0x31313131), 4 * i);
        }
        due("sign: the 81st", x.sign(0x31313131), NONE);
        due("sign: still 80", x.count(11), 80);
        x.end(77);
        due("sign: 77 and four are too many", x.sign(0), NONE);
        due("sign: still 77", x.count(11), 77);
        x.end(76);
        due("sign: 76 and four", x.sign(0), 80);
        x.end(0);
        x.sign(0xff313131);
        due("sign: a byte above 127 is a sign", x.words(0), -1);
    }

    private static void promise3End() {
        RingedPage x = new RingedPage();
        due("end: of an empty one", x.end(0), true);
        due("end: not so many", x.end(1), false);
        due("end: below 0", x.end(-1), false);
        x.sign(0x31323334);
        due("end: 5 of 4", x.end(5), false);
        due("end: far too many", x.end(MAX), false);
        due("end: far below", x.end(MIN), false);
        due("end: refused ones change nothing", x.count(11), 4);
        due("end: all", x.end(4), true);
        due("end: 3", x.end(3), true);
        due("end: 3 then", x.count(11), 3);
        due("end: the first ones", x.words(1), 3);
        due("end: which", wordsOf(x, 1), "123");
    }

    private static void promise4Words() {
        RingedPage x = new RingedPage();
        due("words: 9 sizes", words(x, 2, "123456789"), 9);
        due("words: they are it", wordsOf(x, 2), "123456789");
        due("words: the text is empty then", x.count(11), 0);
        due("words: 0 can't be", words(x, 2, "110"), -3);
        due("words: emptied by a refused one", x.count(11), 0);
        due("words: a sign below 0", words(x, 2, "1/"), -2);
        due("words: a sign above 9", words(x, 2, ":"), -1);
        due("words: a letter", words(x, 2, "11a"), -3);
        due("words: refused ones change nothing", wordsOf(x, 2), "123456789");
        due("words: 70", words(x, 1, times("7", 70)), 70);
        due("words: the 71st", words(x, 1, times("7", 71)), -71);
        due("words: 80, of which the 71st", words(x, 1, times("7", 80)), -71);
        due("words: a wrong one ahead of the 71st", words(x, 1, times("7", 69) + "x7"), -70);
        due("words: still 70", x.count(6), 70);
        for (int which : NO_TEXTS) {
            due("words: no such text", words(x, which, "5"), NONE);
            due("words: emptied, too", x.count(11), 0);
        }
        due("words: of an empty text", x.words(2), 0);
        due("words: none then", x.count(7), 0);
        due("words: the ROW is not told", x.count(10), 0);
        wordsAndTies();
    }

    private static void wordsAndTies() {
        RingedPage x = smallTied();
        words(x, 2, "11");
        due("words: ties of OUTER go", tiesOf(x), "i0-0 i7-3");
        x.undo();
        words(x, 1, "44444444");
        due("words: ties of INNER go, even by the same words", tiesOf(x), "o2-8");
        x.undo();
        words(x, 0, "5555555555555");
        due("words: of MAIN all go", x.count(8), 0);
        x.undo();
        words(x, 0, "5z");
        due("words: refused ones keep ties", x.count(8), 3);
    }

    private static void promise5Ties() {
        RingedPage x = small();
        due("ties: three", ties(x, "o0011i0711i0000"), 3);
        due("ties: numbered as told", tiesOf(x), "o0-11 i7-11 i0-0");
        due("ties: the text is empty then", x.count(11), 0);
        due("ties: in place of all", ties(x, "i0000"), 1);
        due("ties: the new ones alone", tiesOf(x), "i0-0");
        due("ties: same k of INNER and OUTER", ties(x, "i0100o0100"), 2);
        due("ties: none", x.ties(), 0);
        due("ties: none then", x.count(8), 0);
        words(x, 1, "1111111111111");
        StringBuilder b = new StringBuilder();
        for (int k = 0; k < 12; k++) {
            b.append('i').append((char) ('0' + k / 10)).append((char) ('0' + k % 10)).append("05");
        }
        due("ties: twelve", ties(x, b.toString()), 12);
        due("ties: a thirteenth one", ties(x, b + "i1200"), -61);
        due("ties: the first sign of a thirteenth one", ties(x, b + "i"), -61);
        due("ties: of a thirteenth one, another sign", ties(x, b + "z"), -61);
        due("ties: still twelve", x.count(8), 12);
    }

    private static void promise5TiesThatCannotBe() {
        RingedPage x = smallTied();
        String[] signs = {"x0000", "I0000", "ix000", "i0x00", "i00x0", "i000x", "i", "i0", "i00", "i000",
            "i0800", "o0300", "i0012", "i9900", "i0099", "i0000i0001", "i0000i", "i0000 ", "i0100o0300", "i0000i0x"};
        int[] want = {-1, -1, -2, -3, -4, -5, -2, -3, -4, -5,
            -3, -3, -5, -3, -5, -8, -7, -6, -8, -8};
        for (int i = 0; i < signs.length; i++) {
            due("ties: " + signs[i], ties(x, signs[i]), want[i]);
            due("ties: emptied by " + signs[i], x.count(11), 0);
        }
        due("ties: refused ones change nothing", tiesOf(x), "i0-0 i7-3 o2-8");
        due("ties: nor what can be undone", x.count(9), 6);
        RingedPage y = new RingedPage();
        due("ties: without words", ties(y, "i0000"), -3);
    }

    private static void promise6Sheet() {
        RingedPage x = new RingedPage();
        words(x, 1, "5555");
        due("sheet: ints", x.sheet(1, 0, 2, 4, 4, 1), 3);
        due("sheet: they are it", wordsOf(x, 1), "4567");
        due("sheet: from k on", x.sheet(1, 2, 2, 2, 9, -8), 2);
        due("sheet: the rest stays", wordsOf(x, 1), "4591");
        due("sheet: bytes by their lowest bits", x.sheet(1, 0, 0, 2, 256 + 3, 257), 2);
        due("sheet: 3, 4", wordsOf(x, 1), "3491");
        due("sheet: shorts by their lowest bits", x.sheet(1, 0, 1, 1, 65536 * 5 + 8, 0), 1);
        due("sheet: 8", wordsOf(x, 1), "8491");
        due("sheet: ints wrap", x.sheet(1, 0, 2, 2, MAX, MIN + 9), -4);
        due("sheet: ints wrap to what can be", x.sheet(1, 0, 2, 3, 2, MIN), -4);
        due("sheet: the second one is it", rowOf(x), asList(1, 2));
        due("sheet: twice the least is 0", x.sheet(1, 0, 2, 1, 2, MIN), 1);
        due("sheet: none", x.sheet(1, 0, 2, 0, 100, 0), 0);
        due("sheet: none, far away", x.sheet(1, MAX, 0, 0, 100, 0), 0);
        due("sheet: nothing to undo but the words()", x.count(9), 1);
        words(x, 2, times("1", 70));
        due("sheet: 70", x.sheet(2, 0, 1, 70, 9, 0), 70);
        due("sheet: all of them", wordsOf(x, 2), times("9", 70));
        ties(x, "");
        x.sheet(2, 0, 1, 70, 8, 0);
        x.undo();
        due("sheet: undo() takes what was ahead of its change", wordsOf(x, 2), times("9", 70));
    }

    private static void promise6SheetRefused() {
        RingedPage x = new RingedPage();
        words(x, 1, "5555");
        x.pages();
        for (int which : NO_TEXTS) {
            due("sheet: no such text", x.sheet(which, 0, 2, 1, 5, 0), NONE);
            due("sheet: no such text, ahead of others", x.sheet(which, 0, 3, -1, 5, 0), NONE);
        }
        due("sheet: kind 4", x.sheet(1, 0, 4, 1, 5, 0), NONE);
        due("sheet: kind -1, ahead of others", x.sheet(1, 0, -1, -1, 5, 0), NONE);
        due("sheet: 71", x.sheet(1, 0, 2, 71, 5, 0), NONE);
        due("sheet: 71 of a missing one", x.sheet(1, 0, 3, 71, 5, 0), NONE);
        due("sheet: missing", x.sheet(1, 0, 3, 1, 5, 0), -3);
        due("sheet: missing, below 0", x.sheet(1, 0, 3, MIN, 5, 0), -3);
        due("sheet: below 0", x.sheet(1, 0, 0, -1, 5, 0), -2);
        due("sheet: the ROW stays with these", rowOf(x), asList(1));
        due("sheet: 0 is no size", x, x.sheet(1, 1, 2, 2, 1, -1), -4, 1, 2);
        due("sheet: 10 is no size", x, x.sheet(1, 0, 2, 4, 7, 1), -4, 3, 2);
        due("sheet: no fifth word", x, x.sheet(1, 0, 2, 5, 6, 0), -4, 4, 1);
        due("sheet: no word, ahead of no size", x, x.sheet(1, 4, 2, 1, 0, 0), -4, 0, 1);
        due("sheet: no word below 0", x, x.sheet(1, -1, 2, 2, 5, 0), -4, 0, 1);
        due("sheet: no word far away", x, x.sheet(1, MAX, 2, 2, 5, 0), -4, 0, 1);
        due("sheet: a byte with its sign", x, x.sheet(1, 0, 0, 1, 255, 0), -4, 0, 2);
        due("sheet: a short with its sign", x, x.sheet(1, 0, 1, 1, 65535, 0), -4, 0, 2);
        due("sheet: an int is no byte", x, x.sheet(1, 0, 2, 1, 259, 0), -4, 0, 2);
        due("sheet: a short is no byte", x, x.sheet(1, 0, 1, 1, 259, 0), -4, 0, 2);
        due("sheet: nothing changed", wordsOf(x, 1), "5555");
    }

    // ---- as it is set

    private static void promise7Pages() {
        RingedPage x = small();
        due("pages: two", x, x.pages(), 2, 1);
        x.sets(1, 4);
        due("pages: all on one", x, x.pages(), 1, 4);
        words(x, 0, "");
        due("pages: two lines of comments", x, x.pages(), 1, 2);
        words(x, 1, "");
        words(x, 2, "");
        due("pages: none", x, x.pages(), 0, 0);
        RingedPage y = new RingedPage();
        words(y, 0, times("9", 12));
        y.sets(1, 3);
        due("pages: one, full", y, y.pages(), 1, 3);
    }

    private static void promise8Part() {
        RingedPage x = small();
        due("part: INNER in the crown", x, x.part(0, 0, 1), 4, 0, 19, 0, 0);
        due("part: OUTER in the crown", x, x.part(0, 0, 2), 2, 0, 20, 20, 1);
        due("part: MAIN not in the crown, the ROW stays", x, x.part(0, 0, 0), -2, 0, 20, 20, 1);
        due("part: MAIN between both", x, x.part(0, 1, 0), 3, 0, 18, 11, 1);
        due("part: INNER beside", x, x.part(0, 1, 1), 2, 4, 10, 0, 1);
        due("part: OUTER's last one is not ragged", x, x.part(0, 1, 2), 1, 2, 10, 30, 0);
        due("part: MAIN beside INNER", x, x.part(0, 2, 0), 5, 3, 29, 11, 0);
        due("part: INNER's last one", x, x.part(0, 2, 1), 2, 6, 10, 0, 0);
        due("part: OUTER has ended", x, x.part(0, 2, 2), -2, 6, 10, 0, 0);
        due("part: MAIN alone, in the crown of page 1", x, x.part(1, 0, 0), 4, 8, 40, 0, 0);
        due("part: behind all", x, x.part(1, 1, 0), -2, 8, 40, 0, 0);
        due("part: behind all, the last line", x.part(1, 2, 2), -2);
        due("part: no such line", x.part(1, 3, 0), NONE);
        due("part: no line -1", x.part(0, -1, 0), NONE);
        due("part: no such page", x.part(2, 0, 0), NONE);
        due("part: no page -1", x.part(-1, 0, 0), NONE);
        due("part: far away", x.part(MAX, MAX, 0), NONE);
        for (int which : NO_TEXTS) {
            due("part: no such text", x.part(0, 0, which), NONE);
        }
        due("part: the ROW stays with NONE", rowOf(x), asList(8, 40, 0, 0));
    }

    private static void promise8Widths() {
        RingedPage x = new RingedPage();
        x.sets(0, 60);
        x.sets(2, 3);
        x.plans(0, 12, 15);
        words(x, 0, times("9", 20));
        words(x, 2, times("9", 3));
        // MAIN beside OUTER: 60 - 15 - 3 = 42, four words of 9 (39).
        due("widths: MAIN beside OUTER", x, x.part(0, 0, 0), 4, 0, 42, 0, 9);
        due("widths: OUTER beside MAIN", x, x.part(0, 0, 2), 1, 0, 15, 45, 36);
        words(x, 1, times("9", 3));
        // 60 - 12 - 15 - 6 = 27
        due("widths: MAIN between", x, x.part(0, 0, 0), 2, 0, 27, 15, 64);
        due("widths: INNER", x, x.part(0, 0, 1), 1, 0, 12, 0, 9);
        due("widths: OUTER", x, x.part(0, 0, 2), 1, 0, 15, 45, 36);
        words(x, 0, "");
        // (60 - 3) / 2 = 28, and 29 are left
        due("widths: INNER without MAIN", x, x.part(0, 0, 1), 2, 0, 28, 0, 81);
        due("widths: OUTER without MAIN", x, x.part(0, 0, 2), 3, 0, 29, 31, 0);
        due("widths: INNER alone", x, x.part(0, 1, 1), 1, 2, 60, 0, 0);
        words(x, 1, "");
        words(x, 2, times("9", 7));
        due("widths: OUTER alone", x, x.part(0, 0, 2), 6, 0, 60, 0, 1);
    }

    private static void promise8CrownAlone() {
        RingedPage x = new RingedPage();
        words(x, 0, "9");
        words(x, 2, "9");
        due("crown: OUTER alone over MAIN", x, x.part(0, 0, 2), 1, 0, 40, 0, 0);
        due("crown: MAIN waits while OUTER has a part", x.part(0, 0, 0), -2);
        due("crown: MAIN in the crown, when OUTER has ended", x, x.part(0, 1, 0), 1, 0, 40, 0, 0);
        words(x, 2, "");
        due("crown: none over MAIN alone", x, x.part(0, 0, 0), 1, 0, 40, 0, 0);
    }

    private static void promise8CrownOfEachPage() {
        RingedPage x = new RingedPage();
        x.sets(1, 10);
        x.plans(9, 9, 9);
        x.sets(0, 29);
        for (int t = 0; t < 3; t++) {
            words(x, t, times("9", 70));
        }
        // Comments have one word in each of 70 lines (14 wide over MAIN, 9 beside it), MAIN one in each tenth,
        // and the other 63, alone, three in a line: 91 lines
        due("crown: as many lines as there can be", x, x.pages(), 10, 1);
        due("crown: of page 6", x, x.part(6, 8, 2), 1, 68, 14, 15, 25);
        due("crown: none for MAIN on page 6", x.part(6, 8, 0), -2);
        due("crown: MAIN below it on page 6", x, x.part(6, 9, 0), 1, 6, 9, 10, 0);
        due("crown: none on page 7", x, x.part(7, 0, 0), 3, 7, 29, 0, 0);
        due("crown: the last one", x.word(0, 69, 0) * 10 + x.word(0, 69, 1), 90);
        due("crown: apart", x, x.apart(), 21, 1, 0);
    }

    private static void promise9Word() {
        RingedPage x = small();
        int[][] cases = {{0, 1, 0, 1, 18, 5, 1}, {0, 2, 0, 1, 24, 5, 2}, {0, 0, 0, 1, 11, 5, 0},
            {0, 9, 1, 0, 6, 5, 1}, {2, 1, 0, 0, 31, 9, 1}, {2, 2, 0, 1, 30, 9, 0}, {1, 5, 0, 1, 6, 4, 1},
            {1, 7, 0, 2, 5, 4, 1}, {0, 7, 0, 2, 35, 5, 4}, {0, 11, 1, 0, 18, 5, 3}};
        for (int[] c : cases) {
            for (int what = 0; what < 5; what++) {
                due("word " + c[0] + " " + c[1] + " " + what, x.word(c[0], c[1], what), c[2 + what]);
            }
        }
        x.pages();
        int[][] none = {{0, 12, 0}, {1, 8, 3}, {2, 3, 0}, {0, -1, 0}, {-1, 0, 0}, {3, 0, 0}, {0, 0, 5}, {0, 0, -1},
            {MAX, 0, 0}, {0, MAX, 0}, {0, 0, MAX}, {MIN, MIN, MIN}};
        for (int[] c : none) {
            due("word throws " + Arrays.toString(c), wordThrows(x, c[0], c[1], c[2]), true);
        }
        due("word: the ROW stays", rowOf(x), asList(1));
    }

    private static void promise9Spread() {
        RingedPage x = new RingedPage();
        words(x, 0, "5555555555");
        // six words of 5 in 40: ten blanks in five gaps
        int[] even = {0, 7, 14, 21, 28, 35, 0, 6, 12, 18};
        for (int k = 0; k < even.length; k++) {
            due("spread: alike, column of " + k, x.word(0, k, 2), even[k]);
        }
        words(x, 0, "98767899");
        // 9 8 7 6 in 40 (with blanks 33): ten blanks in three gaps: 4, 3, 3; then 7 8 9 9 is the last part
        int[] over = {0, 13, 24, 34, 0, 8, 17, 27};
        for (int k = 0; k < over.length; k++) {
            due("spread: left over from the left, column of " + k, x.word(0, k, 2), over[k]);
        }
        RingedPage y = new RingedPage();
        y.plans(0, 10, 10);
        words(y, 0, "55");
        words(y, 2, "666");
        due("spread: one word alone stands at the left", y.word(2, 0, 2), 30);
        due("spread: and the next one", y.word(2, 1, 1), 1);
    }

    private static void promise10At() {
        RingedPage x = small();
        due("at: first letter", x, x.at(0, 1, 18), 1, 0);
        due("at: last letter", x, x.at(0, 1, 22), 1, 4);
        due("at: a blank, the ROW stays", x, x.at(0, 1, 23), -2, 4);
        due("at: INNER", x, x.at(0, 1, 7), 105, 1);
        due("at: OUTER", x, x.at(0, 0, 39), 201, 8);
        due("at: column 0", x, x.at(0, 0, 0), 100, 0);
        due("at: between parts", x.at(0, 0, 19), -2);
        due("at: behind a part's words", x.at(0, 1, 39), -2);
        due("at: page 1", x, x.at(1, 0, 22), 11, 4);
        due("at: MAIN's first", x, x.at(0, 1, 11), 0, 0);
        due("at: a line behind all", x.at(1, 2, 39), -2);
        due("at: no such column", x.at(0, 0, 40), NONE);
        due("at: column -1", x.at(0, 0, -1), NONE);
        due("at: no such line", x.at(0, 3, 0), NONE);
        due("at: line -1", x.at(0, -1, 0), NONE);
        due("at: no such page", x.at(2, 0, 0), NONE);
        due("at: page -1", x.at(-1, 0, 0), NONE);
        due("at: far away", x.at(MAX, MIN, MAX), NONE);
        due("at: the ROW stays with NONE", rowOf(x), asList(0));
        due("at: nothing is set", new RingedPage().at(0, 0, 0), NONE);
    }

    private static void promise11Ends() {
        RingedPage x = small();
        due("ends: MAIN", x, x.ends(0), 3, 3, 1);
        due("ends: INNER", x, x.ends(1), 2, 3, 1);
        due("ends: OUTER", x, x.ends(2), 1, 2, 1);
        for (int which : NO_TEXTS) {
            due("ends: no such text, the ROW stays", x, x.ends(which), NONE, 2, 1);
        }
        words(x, 2, "");
        due("ends: without words", x, x.ends(2), NONE, 0, 0);
    }

    private static void promise12Apart() {
        RingedPage x = small();
        due("apart: OUTER first, MAIN last", x, x.apart(), 2, 2, 0);
        words(x, 0, "");
        // line 0: INNER 0 - 3, OUTER 0 - 1; line 1: INNER 4 - 7, OUTER 2
        due("apart: equal ones", x, x.apart(), 0, 1, 1);
        words(x, 1, "");
        due("apart: of one", x, x.apart(), 0, 2, 2);
        words(x, 2, "");
        due("apart: without words", x, x.apart(), 0, NONE, NONE);
        RingedPage y = new RingedPage();
        y.plans(0, 10, 10);
        words(y, 0, "9");
        words(y, 1, "99");
        words(y, 2, "99");
        due("apart: equal ones last", y, y.apart(), 1, 0, 1);
    }

    private static void promise13Ragged() {
        RingedPage x = small();
        due("ragged: the first greatest one", x, x.ragged(), 3, 1, 0, 0, 2);
        x.plans(0, 10, 10);
        due("ragged: by texts within a line", x, x.ragged(), 8, 1, 0, 0, 0);
        words(x, 0, "");
        words(x, 1, "");
        due("ragged: all 0", x, x.ragged(), 0, 0, 0, 0, 0);
        RingedPage y = new RingedPage();
        y.sets(1, 3);
        // 9 9 9 9 leave 1 of 40; 9 9 9 4 leave 6, as the next one has 9
        words(y, 0, "9999" + "9999" + "9999" + "9994" + "9999" + "9");
        due("ragged: on the second page", y, y.ragged(), 1 + 1 + 1 + 36 + 1, 36, 1, 0, 0);
    }

    private static void promise14Cost() {
        RingedPage x = smallTied();
        due("cost: as at first weighed", x, x.cost(), 2 * 10000 + 2 * 100 + 3, 2, 2, 3);
        x.weighs(0, 7);
        x.weighs(1, 1000);
        x.weighs(2, 100);
        due("cost: weighed otherwise", x, x.cost(), 14 + 2000 + 300, 2, 2, 3);
        x.weighs(0, 0);
        x.weighs(1, 0);
        x.weighs(2, 0);
        due("cost: weighed by nothing", x, x.cost(), 0, 2, 2, 3);
    }

    private static void promise15Line() {
        RingedPage x = small();
        String inner = "2222002222" + "0";
        String main = "111110011111011111";
        String outer = "0" + "3333333330";
        due("line: letters", x.line(0, 1), 32);
        due("line: as it is read", signsOfRow(x), inner + main + outer);
        due("line: a crown", x.line(0, 0), 34);
        due("line: as the crown is read", signsOfRow(x), "2222022220222202222" + "0" + "33333333300333333333");
        due("line: behind all", x.line(1, 1), 0);
        due("line: noughts", signsOfRow(x), times("0", 40));
        x.sets(0, 60);
        // INNER has (60 - 1) / 2 = 29 columns: six words, OUTER 30: three
        due("line: the widest", x.line(0, 0), 4 * 6 + 9 * 3);
        due("line: 60 columns", x.count(10), 60);
        x.pages();
        due("line: no such line", x.line(0, 3), NONE);
        due("line: line -1", x.line(0, -1), NONE);
        due("line: no such page", x.line(2, 0), NONE);
        due("line: page -1", x.line(-1, 0), NONE);
        due("line: the ROW stays with NONE", x.count(10), 1);
        due("line: nothing is set", new RingedPage().line(0, 0), NONE);
    }

    private static void promise16Blank() {
        RingedPage x = small();
        due("blank: of two pages", x, x.blank(), 240 - 60 - 32 - 27, 120 - 20);
        x.sets(1, 4);
        due("blank: of one page", x, x.blank(), 160 - 119, 160 - 119);
        due("blank: without pages", new RingedPage().blank(), 0);
        RingedPage y = new RingedPage();
        due("blank: without pages", y, y.blank(), 0, 0);
    }

    // ---- ties

    private static void promise17Tie() {
        RingedPage x = smallTied();
        due("tie: above its word", x, x.tie(0), -1, 1, 1, 0, 0);
        due("tie: beside its word", x, x.tie(1), 0, 0, 1, 7, 3);
        due("tie: OUTER", x, x.tie(2), -2, 1, 2, 2, 8);
        due("tie: no fourth", tieThrows(x, 3), true);
        due("tie: none below 0", tieThrows(x, -1), true);
        due("tie: none far away", tieThrows(x, MAX) && tieThrows(x, MIN), true);
        due("tie: the ROW stays", rowOf(x), asList(1, 2, 2, 8));
        due("tie: none at first", tieThrows(new RingedPage(), 0), true);
    }

    private static void promise17Depths() {
        RingedPage x = new RingedPage();
        x.plans(0, 9, 9);
        words(x, 0, "1");
        words(x, 2, "999999999" + times("9", 40));
        // OUTER: word 0 beside MAIN in line 0, then four in each line: word 1 + 4 (n - 1) begins line n
        ties(x, "o2400o2500o0000");
        due("tie: 6 deep stands", x, x.tie(0), 6, 0, 2, 24, 0);
        due("tie: 7 deep is broken", x, x.tie(1), 7, 1, 2, 25, 0);
        due("tie: 0 deep stands", x, x.tie(2), 0, 0, 2, 0, 0);
        due("broken: one", x, x.broken(), 1, 1, 13);
    }

    private static void promise18Broken() {
        RingedPage x = smallTied();
        due("broken: two", x, x.broken(), 2, 0, -3);
        ties(x, "i0703o0208");
        due("broken: the second is the first broken", x, x.broken(), 1, 1, -2);
        ties(x, "i0703");
        due("broken: none", x, x.broken(), 0, NONE, 0);
        ties(x, "");
        due("broken: no ties", x, x.broken(), 0, NONE, 0);
    }

    private static void promise19Loose() {
        RingedPage x = smallTied();
        due("loose: nine of twelve", x, x.loose(), 9, 1);
        ties(x, "i0001i0101");
        due("loose: two ties to one word", x, x.loose(), 11, 0);
        words(x, 0, "55");
        ties(x, "i0001o0100");
        due("loose: none", x, x.loose(), 0, NONE);
        words(x, 0, "");
        due("loose: no words", x, x.loose(), 0, NONE);
    }

    // ---- what would be

    private static void promise20By() {
        RingedPage x = smallTied();
        String was = stateOf(x);
        due("by: without a crown", x, x.by(0, 10, 10), 10008, 2, 1, 0, 8);
        due("by: the plan as it is", x, x.by(1, 10, 10), 20203, 2, 2, 2, 3);
        int[][] cannot = {{3, 10, 10}, {-1, 10, 10}, {0, 8, 10}, {0, 10, 8}, {0, 15, 15}, {0, 41, 9}, {0, 9, 41},
            {MAX, 10, 10}, {0, MAX, MAX}, {0, MIN, 10}, {0, 10, MIN}, {10, 10, 10}};
        for (int[] c : cannot) {
            due("by: can't be " + Arrays.toString(c), x.by(c[0], c[1], c[2]), NONE);
        }
        due("by: the ROW stays with NONE", rowOf(x), asList(2, 2, 2, 3));
        due("by: 29 together", x.by(2, 20, 9) >= 0, true);
        due("by: 30 together", x.by(2, 20, 10), NONE);
        due("by: it is a question", stateOf(x), was);
        x.sets(0, 60);
        due("by: 40 and 9", x.by(0, 40, 9) >= 0, true);
        due("by: 41 can't be", x.by(0, 41, 9) + x.by(0, 9, 41), 2 * NONE);
        x.sets(2, 4);
        due("by: 43 together by a gutter of 4", x.by(0, 34, 9) >= 0, true);
        due("by: 44 together", x.by(0, 35, 9), NONE);
        x.sets(1, 20);
        due("by: a crown of 9", x.by(9, 9, 9) >= 0, true);
        due("by: a crown of 10", x.by(10, 9, 9), NONE);
    }

    /** The best plan by asking by() of each: crown, shares, how many, cost. */
    private static int[] bestByHand(RingedPage x, int most, int step) {
        int[] found = {0, 0, 0, 0, -1};
        for (int crown = 0; crown <= most; crown++) {
            for (int inner = 9; inner <= 40; inner += step) {
                for (int outer = 9; outer <= 40; outer += step) {
                    int cost = x.by(crown, inner, outer);
                    if (cost == NONE) {
                        continue;
                    }
                    found[3]++;
                    if (found[4] < 0 || cost < found[4]) {
                        found[0] = crown;
                        found[1] = inner;
                        found[2] = outer;
                        found[4] = cost;
                    }
                }
            }
        }
        return found;
    }

    private static void promise21Best() {
        RingedPage x = smallTied();
        String was = stateOf(x);
        for (int most = 0; most <= 9; most += 3) {
            for (int step = 1; step <= 9; step++) {
                int[] want = bestByHand(x, most, step);
                due("best " + most + " " + step, x, x.best(most, step), want[4], want[0], want[1], want[2], want[3]);
            }
        }
        // W 40: shares 9 and 18, 29 together at most; crowns 0, 1, 2 by H 3
        x.best(9, 9);
        due("best: plans of the grid", x.row(3), 9L);
        due("best: it is a question", stateOf(x), was);
        x.pages();
        int[][] others = {{-1, 1}, {10, 1}, {0, 0}, {0, 10}, {0, -1}, {MAX, 1}, {0, MAX}, {MIN, MIN}};
        for (int[] c : others) {
            due("best: can't be " + Arrays.toString(c), x.best(c[0], c[1]), NONE);
        }
        due("best: the ROW stays with NONE", rowOf(x), asList(1));
    }

    private static void promise21Equals() {
        RingedPage x = new RingedPage();
        x.plans(0, 15, 14);
        due("best: of equal ones the first", x, x.best(9, 1), 0, 0, 9, 9, 780);
        // 9 .. 20 with both 29 at most: 12 * 13 / 2 = 78 plans for each of ten crowns
        x.sets(0, 60);
        due("best: shares to 40", x, x.best(0, 1), 0, 0, 9, 9, 32 * 33 / 2);
        words(x, 0, "9");
        words(x, 2, "99");
        // beside MAIN, OUTER has both words in line 0 from a share of 19 on; over MAIN they end apart by 1
        due("best: the least share of OUTER", x, x.best(1, 1), 0, 0, 9, 19, 2 * 528);
        x.swaps();
        due("best: the least share of INNER", x, x.best(1, 5), 0, 0, 19, 9, 2 * 28);
    }

    private static void promise22Near() {
        RingedPage x = new RingedPage();
        x.sets(0, 60);
        words(x, 0, "9");
        words(x, 2, "99");
        // OUTER from 19 to 40 and INNER from 9 on, both 49 at most: 22 * 23 / 2 plans end together
        due("near: end together", x, x.near(0, 1, 0), 22 * 23 / 2, 0, 9, 19);
        due("near: by the crown they are apart by 1", x, x.near(1, 1, 0), 22 * 23 / 2, 0, 9, 19);
        due("near: 1 apart are all", x, x.near(1, 1, 1), 2 * 528, 0, 9, 9);
        words(x, 0, "");
        words(x, 2, "9");
        words(x, 1, times("9", 13));
        // INNER: 2 words in line 0, 6, 5: ends in line 2
        due("near: 2 apart are none", x, x.near(0, 9, 1), 0);
        due("near: the ROW has nothing then", x.count(10), 0);
        due("near: 2 apart are all", x.near(0, 9, 2), 10);
        x.pages();
        due("near: 99", x.near(0, 9, 99), 10);
        x.pages();
        int[][] others = {{-1, 1, 0}, {10, 1, 0}, {0, 0, 0}, {0, 10, 0}, {0, 1, -1}, {0, 1, 100}, {MAX, MAX, MAX}};
        for (int[] c : others) {
            due("near: can't be " + Arrays.toString(c), x.near(c[0], c[1], c[2]), NONE);
        }
        due("near: the ROW stays with NONE", rowOf(x), asList(3));
    }

    private static void promise23Climbs() {
        RingedPage x = smallTied();
        String was = stateOf(x);
        for (int[] from : new int[][] {{1, 10, 10}, {2, 20, 9}, {0, 9, 20}, {2, 14, 12}, {0, 9, 9}}) {
            x.plans(from[0], from[1], from[2]);
            climbsByHand(x);
        }
        RingedPage y = smallTied();
        y.climbs();
        due("climbs: it is a question", stateOf(y), was);
        RingedPage z = new RingedPage();
        due("climbs: no cheaper neighbour", z, z.climbs(), 0, 2, 10, 10, 0);
        crownSteps();
    }

    private static void crownSteps() {
        RingedPage x = new RingedPage();
        x.plans(4, 10, 10);
        words(x, 0, "9");
        words(x, 1, times("9", 9));
        // INNER alone has four in a line: by a crown of 4 or 3 it ends in line 2 and MAIN in 3, 1 apart;
        // by 2: line 2 has the ninth beside MAIN: together, ragged 1 and 1: the first step of one less is to 3
        due("climbs: no step where the neighbours cost the same", x, x.climbs(), 0, 4, 10, 10, 10002);
        x.plans(3, 10, 10);
        due("climbs: one crown less", x, x.climbs(), 1, 2, 10, 10, 2);
        x.plans(1, 10, 10);
        // by 1: four over MAIN, one beside it, four below: 2 - 1 apart; by 0: MAIN in 0, INNER 1 + 4 + 4: in 2
        due("climbs: one crown more", x, x.climbs(), 1, 2, 10, 10, 2);
    }

    private static void promise24Narrow() {
        RingedPage x = new RingedPage();
        x.sets(1, 3);
        due("narrow: without words", x, x.narrow(1), 31, 0);
        words(x, 0, times("5", 18));
        // three lines of six words: 6 * 5 + 5
        due("narrow: on one page", x, x.narrow(1), 35, 1);
        due("narrow: on two pages as far as the plan can be", x, x.narrow(2), 31, 2);
        x.plans(2, 9, 9);
        due("narrow: with smaller shares", x, x.narrow(2), 29, 2);
        x.sets(2, 4);
        due("narrow: with wider gutters", x, x.narrow(9), 35, 1);
        words(x, 0, times("9", 70));
        // 35: three in each line, 24 lines, eight pages; 39: four in each line, 18 lines, six pages
        due("narrow: seven pages", x, x.narrow(7), 39, 6);
        x.pages();
        long lines = x.row(0);
        // 60: six in each line, twelve lines, four pages
        due("narrow: three pages are too few", x, x.narrow(3), -2, lines);
        due("narrow: four pages", x, x.narrow(4), 59, 4);
        for (int n : new int[] {0, 10, -1, MAX, MIN}) {
            due("narrow: another n, the ROW stays", x, x.narrow(n), NONE, 4);
        }
        // each line of eight words has 53 letters and seven blanks
        words(x, 0, times("77777666", 3));
        due("narrow: the widest", x, x.narrow(1), 60, 1);
        due("narrow: it is a question", x.count(0), 40);
    }

    private static void promise25Low() {
        RingedPage x = new RingedPage();
        due("low: without words", x, x.low(1), 3, 0);
        words(x, 0, times("5", 24));
        due("low: four lines", x, x.low(1), 4, 1);
        due("low: on two pages", x, x.low(2), 3, 2);
        x.plans(5, 10, 10);
        due("low: above the crown", x, x.low(9), 6, 1);
        due("low: it is a question", x.count(1), 20);
        RingedPage y = new RingedPage();
        y.plans(0, 9, 9);
        y.sets(0, 29);
        for (int t = 0; t < 3; t++) {
            words(y, t, times("9", 70));
        }
        y.pages();
        // each has one word in each of 70 lines
        due("low: 70 lines are too many for one page", y, y.low(1), -2, 10);
        due("low: two pages of 35", y, y.low(2), 35, 2);
        due("low: nine pages of 8", y, y.low(9), 8, 9);
        for (int n : new int[] {0, 10, -1, MAX, MIN}) {
            due("low: another n, the ROW stays", y, y.low(n), NONE, 9);
        }
        for (int t = 0; t < 3; t++) {
            words(y, t, times("9", 40));
        }
        due("low: the highest", y, y.low(1), 40, 1);
    }

    private static void promise26More() {
        RingedPage x = smallTied();
        String was = stateOf(x);
        due("more: behind all", x.more(0, 12, 9), 20203);
        // MAIN becomes 1 5 5 (13 of 18: 25), 5 5 5 5 5 (29 of 29), 5 5 5 5 5; ties go on with their words:
        // MAIN 0 -> 1 (line 1), 3 -> 4 (line 2), 8 -> 9 (line 3): 2 broken as before
        due("more: ahead of all", x.more(0, 0, 1), 20000 + 200 + 25 + 1 + 1);
        due("more: it is a question", stateOf(x), was);
        for (int t = 0; t < 3; t++) {
            for (int k = 0; k <= x.count(5 + t); k++) {
                for (int size = 1; size <= 9; size += 4) {
                    RingedPage y = smallTied();
                    y.comes(t, k, size);
                    due("more: as comes() " + t + " " + k + " " + size, x.more(t, k, size), y.cost());
                }
            }
        }
        x.pages();
        int[][] others = {{0, 13, 1}, {0, -1, 1}, {0, 0, 0}, {0, 0, 10}, {-1, 0, 1}, {3, 0, 1}, {1, 9, 1},
            {0, MAX, 1}, {MAX, 0, 1}, {0, 0, MIN}};
        for (int[] c : others) {
            due("more: can't be " + Arrays.toString(c), x.more(c[0], c[1], c[2]), NONE);
        }
        words(x, 1, times("1", 70));
        due("more: it has 70", x.more(1, 70, 1), -3);
        due("more: it has 70, ahead of all", x.more(1, 0, 9), -3);
        due("more: no such size comes first", x.more(1, 0, 10), NONE);
        due("more: no such place comes first", x.more(1, 71, 1), NONE);
        due("more: the ROW stays", rowOf(x), asList(1));
    }

    private static void promise27Less() {
        RingedPage x = small();
        // MAIN beside INNER alone: five, five, and two in line 3; INNER 1 ragged, OUTER ends in line 0
        due("less: OUTER's last one", x.less(2, 2), 30001);
        x = smallTied();
        String was = stateOf(x);
        // INNER 0 in line 0 is above MAIN 0 in line 1; INNER 7 in line 2 is 1 below MAIN 3
        due("less: with its tie", x.less(2, 2), 30001 + 100);
        due("less: it is a question", stateOf(x), was);
        for (int t = 0; t < 3; t++) {
            for (int k = 0; k < x.count(5 + t); k++) {
                RingedPage y = smallTied();
                y.goes(t, k);
                due("less: as goes() " + t + " " + k, x.less(t, k), y.cost());
            }
        }
        RingedPage one = new RingedPage();
        words(one, 0, "9");
        words(one, 2, "9");
        // over OUTER's only word MAIN can't stand, so they end 1 apart; alone it ends with itself
        due("less: of two", one.cost(), 10000);
        due("less: the only one", one.less(2, 0), 0);
        x.pages();
        for (int[] c : new int[][] {{0, 12}, {0, -1}, {3, 0}, {-1, 0}, {2, 3}, {MAX, 0}, {0, MAX}, {MIN, MIN}}) {
            due("less: none such " + Arrays.toString(c), x.less(c[0], c[1]), NONE);
        }
        due("less: the ROW stays", rowOf(x), asList(1));
    }

    private static void promise28Spare() {
        RingedPage x = new RingedPage();
        x.sets(1, 3);
        due("spare: no pages", x.spare(1), -2);
        words(x, 0, "5");
        // two crown lines of six, then one beside MAIN: 13
        due("spare: INNER", x, x.spare(1), 13, 0);
        due("spare: OUTER", x, x.spare(2), 13, 0);
        due("spare: it is a question", x.count(6), 0);
        words(x, 1, times("5", 13));
        due("spare: no more of INNER", x, x.spare(1), 0, 0);
        x.sets(1, 40);
        // 57 behind the 13: ten lines of six at most, from line 3 on
        due("spare: 70 in all", x, x.spare(1), 57, 10);
        words(x, 1, times("5", 70));
        due("spare: it has 70", x, x.spare(1), 0, 10);
        for (int what : new int[] {0, 3, -1, MAX, MIN}) {
            due("spare: another, the ROW stays", x, x.spare(what), NONE, 10);
        }
        due("spare: another, ahead of no pages", new RingedPage().spare(0), NONE);
    }

    // ---- changes

    private static void promise29Sets() {
        RingedPage x = new RingedPage();
        due("sets: W", x.sets(0, 60), 40);
        due("sets: it is so", x.sets(0, 60), -2);
        due("sets: W 61", x.sets(0, 61), NONE);
        due("sets: W 28", x.sets(0, 28), NONE);
        due("sets: W 30 by this plan", x.sets(0, 30), -3);
        due("sets: W 31", x.sets(0, 31), 60);
        due("sets: GUTTER 2 by this plan", x.sets(2, 2), -3);
        due("sets: W 40", x.sets(0, 40), 31);
        due("sets: GUTTER 4", x.sets(2, 4), 1);
        due("sets: GUTTER 5", x.sets(2, 5), NONE);
        due("sets: GUTTER 0", x.sets(2, 0), NONE);
        due("sets: GUTTER 1", x.sets(2, 1), 4);
        due("sets: GUTTER 4 again", x.sets(2, 4), 1);
        due("sets: GUTTER is so", x.sets(2, 4), -2);
        due("sets: W 36 by this gutter", x.sets(0, 36), -3);
        due("sets: W 37", x.sets(0, 37), 40);
        due("sets: H 3", x.sets(1, 3), 20);
        due("sets: H 2", x.sets(1, 2), NONE);
        due("sets: H 41", x.sets(1, 41), NONE);
        due("sets: H 40", x.sets(1, 40), 3);
        x.plans(9, 10, 10);
        due("sets: H 9 by a crown of 9", x.sets(1, 9), -3);
        due("sets: H 10", x.sets(1, 10), 40);
        for (int what : NO_TEXTS) {
            due("sets: another", x.sets(what, 3), NONE);
        }
        due("sets: W", x.count(0), 37);
        due("sets: H", x.count(1), 10);
        due("sets: GUTTER", x.count(12), 4);
        due("sets: far away", x.sets(0, MAX) + x.sets(1, MIN), 2 * NONE);
    }

    private static void promise30Weighs() {
        RingedPage x = new RingedPage();
        due("weighs: 0", x.weighs(0, 0), 10000);
        due("weighs: 0 is so", x.weighs(0, 0), -2);
        due("weighs: back", x.weighs(0, 10000), 0);
        due("weighs: 1", x.weighs(1, 10000), 100);
        due("weighs: 2", x.weighs(2, 100), 1);
        int[][] others = {{0, 10001}, {1, 10001}, {2, 101}, {0, -1}, {1, -1}, {2, -1}, {3, 1}, {-1, 1}, {MAX, 1}, {0, MIN}};
        for (int[] c : others) {
            due("weighs: can't be " + Arrays.toString(c), x.weighs(c[0], c[1]), NONE);
        }
        due("weighs: all", x.count(13) + " " + x.count(14) + " " + x.count(15), "10000 10000 100");
        due("weighs: can be undone", x.count(9), 4);
    }

    private static void promise31Swaps() {
        RingedPage x = smallTied();
        due("swaps: INNER has three", x.swaps(), 3);
        due("swaps: INNER", wordsOf(x, 1), "999");
        due("swaps: OUTER", wordsOf(x, 2), "44444444");
        due("swaps: ties go with their words", tiesOf(x), "o0-0 o7-3 i2-8");
        x.plans(1, 11, 9);
        due("swaps: back", x.swaps(), 8);
        due("swaps: shares stay", x.count(3) * 100 + x.count(4), 1109);
        words(x, 2, "");
        due("swaps: with none", x.swaps(), 0);
        due("swaps: OUTER has them", wordsOf(x, 2), "44444444");
        x.undo();
        due("swaps: done though INNER has none then, so it is undone", wordsOf(x, 1), "44444444");
        words(x, 1, "");
        due("swaps: neither has any", x.swaps(), -2);
        RingedPage y = new RingedPage();
        words(y, 2, "");
        words(y, 0, "5");
        due("swaps: MAIN alone", y.swaps(), -2);
        due("swaps: a refused one is not kept", y.count(9), 2);
    }

    private static void promise32Plans() {
        RingedPage x = new RingedPage();
        due("plans: as it was at first", x.plans(0, 9, 20), 21010);
        due("plans: it is so", x.plans(0, 9, 20), -2);
        due("plans: as it was then", x.plans(9, 20, 9), 920);
        due("plans: it is that", x.count(2) * 10000 + x.count(3) * 100 + x.count(4), 92009);
        int[][] cannot = {{10, 10, 10}, {-1, 10, 10}, {0, 8, 10}, {0, 10, 8}, {0, 20, 10}, {0, 41, 9}, {MAX, MAX, MAX},
            {0, MAX, 10}, {0, MIN, MIN}};
        for (int[] c : cannot) {
            due("plans: can't be " + Arrays.toString(c), x.plans(c[0], c[1], c[2]), NONE);
        }
        due("plans: one share alone is another", x.plans(9, 20, 9), -2);
        due("plans: OUTER alone", x.plans(9, 19, 9) + x.plans(9, 19, 10), 92009 + 91909);
        due("plans: four were done", x.count(9), 4);
    }

    private static void promise33TakesBest() {
        RingedPage x = smallTied();
        int cost = x.best(2, 1);
        List<Long> plan = rowOf(x);
        x.pages();
        due("takesBest: its cost, the ROW stays", x, x.takesBest(2, 1), cost, 1);
        due("takesBest: the plan", asList(x.count(2), x.count(3), x.count(4)), plan.subList(0, 3));
        due("takesBest: what it costs then", x.cost(), cost);
        int undone = x.count(9);
        due("takesBest: it is that", x.takesBest(2, 1), -2);
        due("takesBest: refused ones are not kept", x.count(9), undone);
        for (int[] c : new int[][] {{-1, 1}, {10, 1}, {0, 0}, {0, 10}, {MAX, MIN}}) {
            due("takesBest: can't be " + Arrays.toString(c), x.takesBest(c[0], c[1]), NONE);
        }
    }

    private static void promise34Comes() {
        RingedPage x = smallTied();
        due("comes: ahead of all", x.comes(0, 0, 1), 13);
        due("comes: words", wordsOf(x, 0), "1555555555555");
        due("comes: ties of MAIN go on", tiesOf(x), "i0-1 i7-4 o2-9");
        due("comes: in INNER", x.comes(1, 7, 2), 9);
        due("comes: words of INNER", wordsOf(x, 1), "444444424");
        due("comes: ties from k on", tiesOf(x), "i0-1 i8-4 o2-9");
        due("comes: behind all", x.comes(2, 3, 7), 4);
        due("comes: words of OUTER", wordsOf(x, 2), "9997");
        due("comes: ties stay", tiesOf(x), "i0-1 i8-4 o2-9");
        int[][] others = {{0, 14, 1}, {0, -1, 1}, {0, 0, 0}, {0, 0, 10}, {-1, 0, 1}, {3, 0, 1}, {MAX, MAX, MAX}, {0, MIN, 1}};
        for (int[] c : others) {
            due("comes: can't be " + Arrays.toString(c), x.comes(c[0], c[1], c[2]), NONE);
        }
        words(x, 1, times("1", 69));
        due("comes: the 70th", x.comes(1, 0, 9), 70);
        due("comes: the 71st", x.comes(1, 0, 9), -3);
        due("comes: no such size comes first", x.comes(1, 0, 0), NONE);
        due("comes: 70 stay", wordsOf(x, 1), "9" + times("1", 69));
    }

    private static void promise35Goes() {
        RingedPage x = smallTied();
        due("goes: MAIN 3 with its tie", x.goes(0, 3), 11);
        due("goes: ties behind it go on", tiesOf(x), "i0-0 o2-7");
        due("goes: INNER 0 with its tie", x.goes(1, 0), 7);
        due("goes: ties left", tiesOf(x), "o2-7");
        due("goes: OUTER 0", x.goes(2, 0), 2);
        due("goes: its tie goes on", tiesOf(x), "o1-7");
        for (int[] c : new int[][] {{0, 11}, {1, 7}, {2, 2}, {0, -1}, {3, 0}, {-1, 0}, {MAX, MIN}}) {
            due("goes: none such " + Arrays.toString(c), x.goes(c[0], c[1]), NONE);
        }
        x.sheet(2, 0, 2, 2, 3, 4);
        due("goes: the first", x.goes(2, 0), 1);
        due("goes: the second is left", wordsOf(x, 2), "7");
        due("goes: the last", x.goes(2, 0), 0);
        due("goes: none left", x.goes(2, 0), NONE);
        RingedPage y = small();
        ties(y, "i0002i0102o0002o0103");
        y.goes(0, 2);
        due("goes: all ties to a word go", tiesOf(y), "o1-2");
    }

    private static void promise36Day() {
        RingedPage x = smallTied();
        due("day: an empty one", x, x.day(), 0, 0, 20203);
        due("day: nothing to undo of it", x.count(9), 6);
        due("day: acts of all kinds", day(x, "w50h21u2p51211xc0125g101"), 7);
        due("day: W, H, GUTTER", x.count(0) + " " + x.count(1) + " " + x.count(12), "50 21 2");
        due("day: the plan", x.count(2) + " " + x.count(3) + " " + x.count(4), "5 12 11");
        due("day: words of MAIN", wordsOf(x, 0), "5555555555555");
        due("day: words of INNER", wordsOf(x, 1), "99");
        due("day: ties", tiesOf(x), "o0-0 o7-3 i1-8");
        due("day: one more to undo", x.count(9), 7);
        due("day: undone as one", x.undo(), 6);
        due("day: as it was", stateOf(x), stateOf(smallTied()));
        int least = x.best(2, 1);
        List<Long> plan = rowOf(x).subList(0, 3);
        due("day: the best", x, day(x, "b21"), 1, 0, least);
        due("day: the best plan", asList(x.count(2), x.count(3), x.count(4)), plan);
        x.undo();
        x.best(0, 3);
        plan = rowOf(x).subList(0, 3);
        due("day: the best of another grid", day(x, "b03"), 1);
        due("day: its plan", asList(x.count(2), x.count(3), x.count(4)), plan);
        due("day: comes of another size", day(x, "c2009"), 1);
        due("day: a new word of OUTER", wordsOf(x, 2), "9999");
        due("day: the text is empty then", x.count(11), 0);
        RingedPage y = small();
        due("day: the ROW", y, day(y, "p01010"), 1, 0, 10008);
    }

    private static void promise36DayThatStops() {
        RingedPage x = small();
        due("day: stops at the second", x, day(x, "p01010w40h04"), 1, 1, 10008);
        due("day: what is behind is not done", x.count(1), 3);
        due("day: done ones can be undone", x.undo(), 5);
        due("day: as it was", x.count(2), 1);
        due("day: stops at the first", x, day(x, "h03p01010"), 0, 1, 20003);
        due("day: nothing to undo", x.count(9), 5);
        String[] cannot = {"w99", "w40", "w29", "h02", "h99", "u0", "u9", "u1", "p99999", "p11010", "c3001", "c0991", "c0000",
            "g300", "g012", "b00", "b90", "w00", "p00000"};
        for (String act : cannot) {
            due("day: can't be " + act, x, day(x, act), 0, 1, 20003);
        }
        RingedPage y = new RingedPage();
        due("day: nothing to swap", y, day(y, "x"), 0, 1, 0);
        words(y, 1, "9");
        due("day: INNER has none then, and it goes on", y, day(y, "xg200"), 2, 0, 0);
        words(y, 1, times("1", 70));
        due("day: 70 are there", day(y, "c1001"), 0);
        y.takesBest(0, 1);
        due("day: it is the best", day(y, "b01"), 0);
    }

    private static void promise36DayThatCannotBeRead() {
        RingedPage x = small();
        x.pages();
        String was = stateOf(x);
        x.pages();
        String[] days = {"z", "w", "w4", "wx", "w4x", "h", "h0", "hx1", "u", "ux", "p", "p0", "p010", "p0101", "p01x10",
            "c", "c0", "c00", "c000", "c0x01", "g", "g0", "g00", "gx00", "b", "b0", "b0x", "xx ", "w41z", "w41w4",
            "p01010p0101z", " w41", "W41", "xw4"};
        int[] want = {-1, -2, -3, -2, -3, -2, -3, -2, -2, -2, -2, -3, -5, -6, -4,
            -2, -3, -4, -5, -3, -2, -3, -4, -2, -2, -3, -3, -3, -4, -6,
            -12, -1, -1, -4};
        for (int i = 0; i < days.length; i++) {
            due("day: can't be read " + days[i], x, day(x, days[i]), want[i], 1);
            due("day: emptied by " + days[i], x.count(11), 0);
        }
        due("day: nothing is done", stateOf(x), was);
        due("day: nothing to undo", x.count(9), 5);
        due("day: longest", day(x, times("x", 80)), 80);
        due("day: too early at 80", day(x, times("x", 79) + "w"), -81);
    }

    private static void promise37Undo() {
        RingedPage x = new RingedPage();
        due("undo: none", x.undo(), NONE);
        for (int i = 1; i <= 9; i++) {
            x.weighs(2, 10 + i);
            due("undo: at most 7", x.count(9), Math.min(i, 7));
        }
        for (int i = 8; i >= 2; i--) {
            due("undo: left", x.undo(), i - 2);
            due("undo: as ahead of it", x.count(15), 10 + i);
        }
        due("undo: no more", x.undo(), NONE);
        due("undo: stays", x.count(15), 12);
        x.weighs(2, 50);
        x.pages();
        x.sign(0x31313131);
        due("undo: one again", x, x.undo(), 0, 0);
        due("undo: THE TEXT stays", x.count(11), 4);
        x.weighs(2, 60);
        x.weighs(2, 60);
        x.weighs(2, 200);
        due("undo: refused ones do not count", x.count(9), 1);
    }

    private static void promise37EachKind() {
        for (int kind = 0; kind < KINDS.length; kind++) {
            RingedPage x = smallTied();
            String was = stateOf(x);
            due("undo: done, " + KINDS[kind], change(x, kind) >= 0, true);
            due("undo: it is another then, " + KINDS[kind], stateOf(x).equals(was), false);
            due("undo: one more, " + KINDS[kind], x.count(9), 7);
            due("undo: undone, " + KINDS[kind], x.undo(), 6);
            due("undo: as it was, " + KINDS[kind], stateOf(x), was);
        }
        // one behind another, so that each has something else ahead of it
        RingedPage x = smallTied();
        List<String> states = new ArrayList<>();
        for (int kind = 11; kind >= 5; kind--) {
            states.add(stateOf(x));
            x.years(kind, 30);
            change(x, kind);
        }
        for (int i = 6; i >= 0; i--) {
            due("undo: left, one behind another", x.undo(), i);
            due("undo: as it was, one behind another", stateOf(x), states.get(i));
        }
    }

    private static void promise38Years() {
        for (int seed : new int[] {0, 1, -1, 12345, MAX, MIN, 987654321}) {
            for (int n : new int[] {1, 2, 17, 30}) {
                RingedPage x = smallTied();
                String was = stateOf(x);
                RingedPage y = smallTied();
                draw(y, seed, n);
                y.pages();
                int pages = y.pages();
                due("years " + seed + " " + n, x, x.years(seed, n), pages, y.cost(), y.count(5), y.count(6), y.count(7));
                due("years: it is forgotten", stateOf(x), was);
                due("years: nothing to undo", x.count(9), 6);
            }
        }
        RingedPage z = new RingedPage();
        // R = 12345 at first: 0, a word of MAIN; then, without sign, 3554416254, by 65536: 54236 % 9 = 2
        due("years: one", z, z.years(0, 1), 1, 0, 1, 0, 0);
        for (int t = 0; t < 3; t++) {
            words(z, t, times("1", 70));
        }
        z.years(5, 30);
        due("years: all have 70", rowOf(z).subList(1, 4), asList(70, 70, 70));
        z.pages();
        long lines = z.row(0);
        for (int n : new int[] {0, 31, -1, MAX, MIN}) {
            due("years: another n, the ROW stays", z, z.years(1, n), NONE, lines);
        }
        oneFullText();
    }

    private static void oneFullText() {
        RingedPage x = new RingedPage();
        RingedPage y = new RingedPage();
        words(x, 1, times("1", 69));
        words(y, 1, times("1", 69));
        draw(y, 77, 30);
        due("years: a full text takes nothing, but its draws are made", x.years(77, 30), y.pages());
        due("years: words", rowOf(x), asList(y.cost(), y.count(5), 70, y.count(7)));
    }

    // ---- kept

    private static void promise39Keep() {
        RingedPage x = smallTied();
        x.pages();
        for (int i : new int[] {-1, 2, MAX, MIN}) {
            due("keep: another", x.keep(i), false);
        }
        due("keep: 0", x.keep(0), true);
        String first = stateOf(x);
        change(x, 6);
        change(x, 7);
        due("keep: 1", x.keep(1), true);
        String second = stateOf(x);
        due("keep: what can be undone stays", x.count(9), 7);
        change(x, 0);
        x.again(0);
        due("keep: the first", stateOf(x), first);
        x.again(1);
        due("keep: the second", stateOf(x), second);
        x.keep(0);
        x.again(0);
        due("keep: anew", stateOf(x), second);
    }

    private static void promise40Again() {
        RingedPage x = smallTied();
        due("again: nothing kept", x.again(0) || x.again(1), false);
        due("again: a refused one forgets nothing", x.count(9), 6);
        x.keep(1);
        due("again: nothing kept under 0", x.again(0), false);
        for (int i : new int[] {-1, 2, MAX, MIN}) {
            due("again: another", x.again(i), false);
        }
        String was = stateOf(x);
        x.pages();
        for (int kind = 0; kind < 12; kind++) {
            change(x, kind);
            x.pages();
            List<Long> row = rowOf(x);
            x.sign(0x31313131);
            due("again: it is done, " + kind, x.again(1), true);
            due("again: the ROW stays", rowOf(x), row);
            due("again: THE TEXT stays", x.count(11), 4);
            x.end(0);
            due("again: nothing can be undone", x.count(9), 0);
            due("again: refused", x.undo(), NONE);
            due("again: as it was kept, " + kind, stateOf(x), was);
        }
    }

    private static void promise41Count() {
        RingedPage x = smallTied();
        x.sets(2, 3);
        x.weighs(0, 11);
        x.weighs(1, 12);
        x.weighs(2, 13);
        x.plans(2, 11, 12);
        x.sets(0, 45);
        x.cost();
        x.sign(0);
        int[] want = {45, 3, 2, 11, 12, 12, 8, 3, 3, 7, 3, 4, 3, 11, 12, 13};
        for (int i = 0; i < want.length; i++) {
            due("count: " + i, x.count(i), want[i]);
        }
        for (int what : new int[] {-1, 16, MAX, MIN}) {
            due("count: another", x.count(what), NONE);
        }
    }

    private static void promise42Row() {
        RingedPage x = smallTied();
        RingedPage y = new RingedPage();
        due("row: none at first", rowThrows(y, 0), true);
        x.cost();
        due("row: 0", x.row(0), 2L);
        due("row: 1", x.row(1), 2L);
        due("row: 2", x.row(2), 3L);
        due("row: no fourth", rowThrows(x, 3), true);
        due("row: none below 0", rowThrows(x, -1), true);
        due("row: none far away", rowThrows(x, MAX) && rowThrows(x, MIN), true);
        x.pages();
        due("row: a shorter one takes its place", rowThrows(x, 1), true);
        due("row: it stays when asked", rowOf(x), rowOf(x));
    }

    private static void rowStaysWhereNothingIsTold() {
        RingedPage x = smallTied();
        x.cost();
        List<Long> row = rowOf(x);
        for (int kind = 0; kind < 11; kind++) {
            change(x, kind);
            due("the ROW stays, change " + kind, rowOf(x), row);
        }
        x.sheet(0, 0, 2, 1, 1, 0);
        x.more(0, 0, 5);
        x.less(0, 0);
        x.word(0, 0, 2);
        x.undo();
        x.keep(0);
        x.again(0);
        x.count(3);
        x.sign(7);
        x.end(0);
        due("the ROW stays with calls that do not tell of it", rowOf(x), row);
    }
}
