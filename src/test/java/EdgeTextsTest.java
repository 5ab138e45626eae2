/** The edges that promises 1 to 6 name (a new object, THE TEXT, words, ties, sheets). */
public final class EdgeTextsTest extends Checks {
    private static final int ONES = 0x31313131;
    private static final String TWELVE = "o1201i1101o1001i0901o0801i0701o0601i0501o0401i0301o0201i0101";

    public static void main(String[] args) {
        newObject();
        signsOrder();
        signsAtMost();
        endOfTheText();
        endRefused();
        wordsOfATextAndTheirTies();
        wordsInPlaceOfOthers();
        wordsDigits();
        wordsSigns();
        wordsThe71st();
        wordsOfNoText();
        tiesInPlaceOfAll();
        tiesLettersAndDigits();
        tiesSigns();
        tiesOfNoWord();
        tiesThatWereTied();
        tiesThirteenth();
        tiesEndTooEarly();
        sheetFromAWordOn();
        sheetBytes();
        sheetShorts();
        sheetInts();
        sheetAnother();
        sheetNotUndone();
        sheetInAll();
        sheetBelowNought();
        sheetMissing();
        sheetEntries();
        sheetNoWord();
        sheetNoSize();
        sheetFirstOfThese();
        sheetNone();
        finishParts("Promise 1", "Promise 2", "Promise 3", "Promise 4", "Promise 5", "Promise 6");
    }

    // ---- promise 1

    private static void newObject() {
        edge("Promise 1", "No WORDS.");
        RingedPage x = new RingedPage();
        for (int t = 0; t < 3; t++) {
            due("none of TEXT " + t, x.count(5 + t), 0);
            due("not even one of TEXT " + t, wordThrows(x, t, 0, 0), true);
        }
        due("no pages", x, x.pages(), 0, 0);
        RingedPage fresh = new RingedPage();
        due("no ties", fresh.count(8), 0);
        due("nothing to undo", fresh.undo(), NONE);
        due("nothing kept", fresh.again(0) || fresh.again(1), false);
        due("no ROW", rowThrows(fresh, 0), true);
        due("no signs", fresh.end(1), false);
        words(x, 0, "123");
        due("none, whatever another object has", new RingedPage().count(5), 0);
    }

    // ---- promise 2

    private static void signsOrder() {
        edge("Promise 2", "Four signs come behind THE TEXT, of v the highest byte first: how many it has.");
        RingedPage x = new RingedPage();
        due("four", x.sign(0x31323334), 4);
        due("four behind them", x.sign(0x35363738), 8);
        x.words(0);
        due("the highest byte first", wordsOf(x, 0), "12345678");
        for (int i = 0; i < 4; i++) {
            x.sign(ONES & ~(255 << 24 - 8 * i) | 255 << 24 - 8 * i);
            due("byte 255 at " + i + " is a sign of its own", x.words(0), -1 - i);
            x.sign(ONES & ~(255 << 24 - 8 * i));
            due("byte 0 at " + i + " is a sign, too", x.words(0), -1 - i);
        }
        due("behind a text that was cut", cutAndSigned(), "1235678");
    }

    private static String cutAndSigned() {
        RingedPage x = new RingedPage();
        x.sign(0x31323334);
        x.end(3);
        due("three and four", x.sign(0x35363738), 7);
        x.words(0);
        return wordsOf(x, 0);
    }

    private static void signsAtMost() {
        edge("Promise 2", "Refused: there would be more than 80.");
        RingedPage x = new RingedPage();
        for (int n = 4; n <= 80; n += 4) {
            due("so many", x.sign(ONES), n);
        }
        due("84", x.sign(ONES), NONE);
        due("80 stay", x.count(11), 80);
        for (int n = 77; n <= 80; n++) {
            int signs = n;
            refused(n + " and four", () -> typed(times("1", signs)), y -> y.sign(ONES), NONE);
        }
        due("76 and four", typed(times("1", 76)).sign(ONES), 80);
        due("75 and four", typed(times("1", 75)).sign(ONES), 79);
    }

    // ---- promise 3

    private static void endOfTheText() {
        edge("Promise 3", "THE TEXT has its first n signs alone: true;");
        RingedPage x = new RingedPage();
        due("none of an empty one", x.end(0), true);
        x.sign(0x31323334);
        due("all", x.end(4), true);
        due("all are there", x.count(11), 4);
        due("three", x.end(3), true);
        due("three are there", x.count(11), 3);
        x.words(0);
        due("the first ones", wordsOf(x, 0), "123");
        x.sign(0x31323334);
        due("one", x.end(1), true);
        due("none", x.end(0), true);
        due("none are there", x.count(11), 0);
        RingedPage full = typed(times("1", 80));
        due("all 80", full.end(80), true);
        due("79 of 80", full.end(79), true);
        due("79 are there", full.count(11), 79);
    }

    private static void endRefused() {
        edge("Promise 3", "false if it has not so many, or n is below 0.");
        due("one of an empty one", new RingedPage().end(1), false);
        refused("one more than it has", Checks::busy, x -> x.end(3) ? 1 : 0, 0);
        refused("many more", Checks::busy, x -> x.end(MAX) ? 1 : 0, 0);
        refused("81 of 80", () -> typed(times("1", 80)), x -> x.end(81) ? 1 : 0, 0);
        refused("-1", Checks::busy, x -> x.end(-1) ? 1 : 0, 0);
        refused("far below 0", Checks::busy, x -> x.end(MIN) ? 1 : 0, 0);
        RingedPage x = typed("12");
        x.end(1);
        due("what was cut off does not come back", x.end(2), false);
    }

    // ---- promise 4

    private static void wordsInPlaceOfOthers() {
        edge("Promise 4", "THE TEXT is WORDS of a TEXT (0 .. 2; in place of those it had;");
        for (int t = 0; t < 3; t++) {
            RingedPage x = page(40, 20, 1, 2, 10, 10, "1111", "2222", "3333");
            due("more than it had, " + t, words(x, t, "98765"), 5);
            due("these, " + t, wordsOf(x, t), "98765");
            due("fewer than it had, " + t, words(x, t, "12"), 2);
            due("these alone, " + t, wordsOf(x, t), "12");
            due("none, " + t, words(x, t, ""), 0);
            due("none are left, " + t, x.count(5 + t), 0);
            for (int other = 0; other < 3; other++) {
                if (other != t) {
                    due("other TEXTS stay, " + t, wordsOf(x, other), times("" + (other + 1), 4));
                }
            }
            due("THE TEXT is empty then, " + t, x.count(11), 0);
        }
    }

    private static void wordsOfATextAndTheirTies() {
        edge("Promise 4", "TIES of it, of MAIN all, go)");
        String[] left = {"", "o2-8", "i0-0 i7-3"};
        String[] same = {"555555555555", "44444444", "999"};
        for (int t = 0; t < 3; t++) {
            RingedPage x = smallTied();
            words(x, t, same[t] + "1");
            due("by other words, " + t, tiesOf(x), left[t]);
            RingedPage y = smallTied();
            words(y, t, same[t]);
            due("by the same words, " + t, tiesOf(y), left[t]);
            RingedPage z = smallTied();
            words(z, t, "");
            due("by none, " + t, tiesOf(z), left[t]);
            RingedPage refused = smallTied();
            words(refused, t, same[t] + "0");
            due("not by a refused one, " + t, tiesOf(refused), "i0-0 i7-3 o2-8");
        }
        RingedPage twelve = manyWords();
        ties(twelve, TWELVE);
        words(twelve, 1, "1");
        due("six of twelve", tiesOf(twelve), "o12-1 o10-1 o8-1 o6-1 o4-1 o2-1");
        ties(twelve, "i0000");
        words(twelve, 0, "1");
        due("all", twelve.count(8), 0);
    }

    private static void wordsDigits() {
        edge("Promise 4", ": a digit 1 .. 9 for each SIZE: how many.");
        RingedPage x = new RingedPage();
        due("all sizes", words(x, 0, "123456789"), 9);
        due("they are it", wordsOf(x, 0), "123456789");
        due("70", words(x, 0, times("9", 70)), 70);
        due("one", words(x, 0, "1"), 1);
    }

    private static void wordsSigns() {
        edge("Promise 4", "-1 - p: the sign at p can't stand there");
        String[] cannot = {"0", "/", ":", "a", " ", "-", "\u0000", "\u00ff", "\u00b1", "i"};
        for (String sign : cannot) {
            String of = ", sign " + (int) sign.charAt(0);
            refusedReading("the first" + of, () -> typed(sign), x -> x.words(1), -1);
            refusedReading("behind two" + of, () -> typed("12" + sign), x -> x.words(1), -3);
            refusedReading("the 70th" + of, () -> typed(times("5", 69) + sign), x -> x.words(1), -70);
            refusedReading("the first of two" + of, () -> typed("1" + sign + "1" + sign), x -> x.words(1), -2);
        }
    }

    private static void wordsThe71st() {
        edge("Promise 4", "(the 71st one, too).");
        refusedReading("71", () -> typed(times("5", 71)), x -> x.words(2), -71);
        refusedReading("80", () -> typed(times("5", 80)), x -> x.words(2), -71);
        refusedReading("71, the last of which can't stand anywhere", () -> typed(times("5", 70) + "x"), x -> x.words(2), -71);
        refusedReading("71, the 70th can't stand there", () -> typed(times("5", 69) + "05"), x -> x.words(2), -70);
        due("70", typed(times("5", 70)).words(2), 70);
    }

    private static void wordsOfNoText() {
        edge("Promise 4", "NONE: no such TEXT.");
        for (int which : NO_TEXTS) {
            refusedReading("of " + which, Checks::busy, x -> x.words(which), NONE);
            refusedReading("of " + which + ", with a wrong sign", () -> typed("11x"), x -> x.words(which), NONE);
            refusedReading("of " + which + ", empty", () -> typed(""), x -> x.words(which), NONE);
        }
    }

    // ---- promise 5

    /** MAIN has 2 words, INNER 13, OUTER 13. */
    private static RingedPage manyWords() {
        return page(40, 20, 1, 2, 10, 10, "55", times("1", 13), times("1", 13));
    }

    private static void tiesInPlaceOfAll() {
        edge("Promise 5", "THE TEXT is TIES (in place of all that there are)");
        RingedPage x = smallTied();
        due("one in place of three", ties(x, "o0011"), 1);
        due("it alone", tiesOf(x), "o0-11");
        due("a word that was tied ahead of it", ties(x, "o0010"), 1);
        due("none", ties(x, ""), 0);
        due("none are left", x.count(8), 0);
        due("THE TEXT is empty then", x.count(11), 0);
        RingedPage y = manyWords();
        due("twelve", ties(y, TWELVE), 12);
        due("twelve in place of twelve", ties(y, TWELVE), 12);
        due("none without words", new RingedPage().ties(), 0);
    }

    private static void tiesLettersAndDigits() {
        edge("Promise 5", ": of each a letter i (INNER) or o (OUTER), two digits (k), two digits (j): how many.");
        RingedPage x = smallTied();
        due("the first words", ties(x, "i0000o0000"), 2);
        due("they are it", tiesOf(x), "i0-0 o0-0");
        due("the last words", ties(x, "o0211i0711"), 2);
        due("these are it", tiesOf(x), "o2-11 i7-11");
        RingedPage y = page(40, 20, 1, 2, 10, 10, times("1", 70), times("1", 70));
        due("k 69, j 69", ties(y, "i6969"), 1);
        due("it is that", tiesOf(y), "i69-69");
        due("k 10, j 01", ties(y, "i1001"), 1);
        due("it is this", tiesOf(y), "i10-1");
    }

    private static void tiesSigns() {
        edge("Promise 5", "-1 - p: the sign at p can't stand there");
        String[] at = {"I", "O", "x", "0", " ", "\u0000", "\u00e9"};
        for (String sign : at) {
            refusedReading("no letter", () -> typed(sign + "0000"), x -> x.ties(), -1);
            refusedReading("no letter behind one", () -> typed("i0000" + sign), x -> x.ties(), -6);
        }
        String good = "i0000";
        for (int p = 1; p < 5; p++) {
            for (String sign : new String[] {"x", "/", ":", "i", "\u0000", "\u00b0"}) {
                String signs = good.substring(0, p) + sign + good.substring(p + 1);
                refusedReading("no digit at " + p, () -> typed(signs), x -> x.ties(), -1 - p);
                refusedReading("no digit at " + (p + 5), () -> typed("o0000" + signs), x -> x.ties(), -6 - p);
            }
        }
    }

    private static void tiesOfNoWord() {
        edge("Promise 5", "(the second digit of a WORD that there is not,");
        // MAIN has 3 words, INNER 2, OUTER 1
        refusedReading("INNER 2", () -> typed("i0200"), x -> x.ties(), -3);
        refusedReading("OUTER 1", () -> typed("o0100"), x -> x.ties(), -3);
        refusedReading("MAIN 3", () -> typed("i0103"), x -> x.ties(), -5);
        refusedReading("INNER 99, ahead of what follows", () -> typed("i99xx"), x -> x.ties(), -3);
        refusedReading("MAIN 99", () -> typed("o0099"), x -> x.ties(), -5);
        refusedReading("of the second one", () -> typed("i0000o0100"), x -> x.ties(), -8);
        refusedReading("a first digit alone is no number yet", () -> typed("i9"), x -> x.ties(), -3);
        due("INNER 1, OUTER 0, MAIN 2", typed("i0102o0002").ties(), 2);
        RingedPage none = new RingedPage();
        due("without words", ties(none, "i0000"), -3);
        words(none, 1, "1");
        due("without words of MAIN", ties(none, "i0000"), -5);
    }

    private static void tiesThatWereTied() {
        edge("Promise 5", "or of k that was tied;");
        refusedReading("INNER 0 twice", () -> typed("i0000i0000"), x -> x.ties(), -8);
        refusedReading("INNER 0 twice, to another word", () -> typed("i0000i0001"), x -> x.ties(), -8);
        refusedReading("ahead of what follows", () -> typed("i0000i00xx"), x -> x.ties(), -8);
        refusedReading("OUTER 0 behind another", () -> typed("o0000i0000o0002"), x -> x.ties(), -13);
        due("INNER 0 and OUTER 0", typed("i0000o0000").ties(), 2);
        due("those that are replaced do not count", typed("i0001").ties(), 1);
    }

    private static void tiesThirteenth() {
        edge("Promise 5", "the first sign of a thirteenth one;");
        String[] behind = {"i", "i0", "i0000", "x", "o0000i0200"};
        for (String more : behind) {
            refusedReading("twelve and " + more, () -> typedOn(manyWords(), TWELVE + more), x -> x.ties(), -61);
        }
        due("twelve", ties(manyWords(), TWELVE), 12);
    }

    private static RingedPage typedOn(RingedPage x, String signs) {
        write(x, signs);
        return x;
    }

    private static void tiesEndTooEarly() {
        edge("Promise 5", "its end, if it ends too early).");
        for (int n = 1; n < 5; n++) {
            int signs = n;
            refusedReading("first of " + n, () -> typed("i0000".substring(0, signs)), x -> x.ties(), -1 - n);
            refusedReading("second of " + n, () -> typed("i0000" + "o0000".substring(0, signs)), x -> x.ties(), -6 - n);
        }
        refusedReading("the twelfth", () -> typedOn(manyWords(), TWELVE.substring(0, 59)), x -> x.ties(), -60);
    }

    // ---- promise 6

    private static RingedPage fives() {
        RingedPage x = new RingedPage();
        words(x, 1, "5555");
        x.apart();
        return x;
    }

    private static void sheetFromAWordOn() {
        edge("Promise 6", "SIZES of WORDS of a TEXT from WORD k on become as a sheet tells, entry by entry:");
        RingedPage x = fives();
        due("from the first on", x.sheet(1, 0, 2, 4, 1, 1), 4);
        due("all of them", wordsOf(x, 1), "1234");
        due("the last alone", x.sheet(1, 3, 2, 1, 9, 0), 1);
        due("it alone", wordsOf(x, 1), "1239");
        due("none of them", x.sheet(1, 0, 2, 0, 7, 0), 0);
        due("they stay", wordsOf(x, 1), "1239");
        RingedPage full = page(40, 20, 1, 2, 10, 10, times("1", 70));
        due("70", full.sheet(0, 0, 2, 70, 9, 0), 70);
        due("all 70", wordsOf(full, 0), times("9", 70));
        due("the 70th", full.sheet(0, 69, 2, 1, 1, 0), 1);
        due("it is another", full.word(0, 69, 3), 1);
        due("ties stay", sheetBesideTies(), "i0-0 i7-3 o2-8");
    }

    private static String sheetBesideTies() {
        RingedPage x = smallTied();
        x.sheet(1, 0, 2, 8, 1, 0);
        return tiesOf(x);
    }

    private static void sheetBytes() {
        edge("Promise 6", "bytes (kind 0),");
        RingedPage x = fives();
        due("the lowest eight bits", x.sheet(1, 0, 0, 4, 256 + 1, 256 + 1), 4);
        due("1, 2, 3, 4", wordsOf(x, 1), "1234");
        due("of a negative int", x.sheet(1, 0, 0, 1, -256 + 9, 0), 1);
        due("9", wordsOf(x, 1), "9234");
        due("past the greatest int", x.sheet(1, 0, 0, 2, MAX - 255 + 6, 256), 2);
        due("6, 6", wordsOf(x, 1), "6634");
        due("128 and more has a sign", x, x.sheet(1, 0, 0, 1, 128 + 5, 0), -4, 0, 2);
        due("256 is 0", x, x.sheet(1, 0, 0, 1, 256, 0), -4, 0, 2);
    }

    private static void sheetShorts() {
        edge("Promise 6", "shorts (1),");
        RingedPage x = fives();
        due("the lowest sixteen bits", x.sheet(1, 0, 1, 4, 65536 + 1, 65536 + 1), 4);
        due("1, 2, 3, 4", wordsOf(x, 1), "1234");
        due("of a negative int", x.sheet(1, 0, 1, 1, -65536 + 9, 0), 1);
        due("9", wordsOf(x, 1), "9234");
        due("past the greatest int", x.sheet(1, 0, 1, 2, MAX - 65535 + 6, 65536), 2);
        due("6, 6", wordsOf(x, 1), "6634");
        due("257 is no byte", x, x.sheet(1, 0, 1, 1, 257, 0), -4, 0, 2);
        due("32768 and more has a sign", x, x.sheet(1, 0, 1, 1, 32768 + 5, 0), -4, 0, 2);
        due("65536 is 0", x, x.sheet(1, 0, 1, 1, 65536, 0), -4, 0, 2);
    }

    private static void sheetInts() {
        edge("Promise 6", "ints (2) of n entries f, f + step, .. (as ints; of bytes, shorts the lowest bits, with their sign),");
        RingedPage x = fives();
        due("one behind another, the third as it was", x.sheet(1, 0, 2, 4, 9, -2), 3);
        due("9, 7, 5, 3", wordsOf(x, 1), "9753");
        due("65537 is no short", x, x.sheet(1, 0, 2, 1, 65537, 0), -4, 0, 2);
        due("257 is no byte", x, x.sheet(1, 0, 2, 1, 257, 0), -4, 0, 2);
        due("past the greatest int", x, x.sheet(1, 0, 2, 2, 5, MAX), -4, 1, 2);
        due("as far as they go", x.sheet(1, 0, 2, 1, 5, MAX), 1);
        due("5", wordsOf(x, 1), "5753");
        // 1 + 2^31 + 2^31 is 1 again, but the one between is none
        due("the one between", x, x.sheet(1, 0, 2, 3, 1, MIN), -4, 1, 2);
        due("bytes of the same", x.sheet(1, 0, 0, 3, 1, MIN), 3);
        due("1, 1, 1", wordsOf(x, 1), "1113");
    }

    private static void sheetMissing() {
        edge("Promise 6", "or a missing one (3):");
        refused("one entry", EdgeTextsTest::fives, x -> x.sheet(1, 0, 3, 1, 4, 0), -3);
        edge("Promise 6", "-3: missing (whatever n is);");
        for (int n : new int[] {MIN, -1, 0, 1, 4, 5, 70}) {
            refused("n " + n, EdgeTextsTest::fives, x -> x.sheet(1, 0, 3, n, 4, 0), -3);
            refused("n " + n + ", no such WORD", EdgeTextsTest::fives, x -> x.sheet(1, 9, 3, n, 4, 0), -3);
        }
    }

    private static void sheetAnother() {
        edge("Promise 6", "how many are another then.");
        RingedPage x = fives();
        due("none", x.sheet(1, 0, 2, 4, 5, 0), 0);
        due("three of four", x.sheet(1, 0, 2, 4, 5, 1), 3);
        due("they are it", wordsOf(x, 1), "5678");
        due("one of two", x.sheet(1, 1, 2, 2, 6, -1), 1);
        due("these", wordsOf(x, 1), "5658");
        due("all", x.sheet(1, 0, 2, 4, 1, 0), 4);
    }

    private static void sheetNotUndone() {
        edge("Promise 6", "Nothing is kept of it that could be undone,");
        RingedPage x = fives();
        due("words() can be undone", x.count(9), 1);
        x.sheet(1, 0, 2, 4, 1, 0);
        due("nothing more", x.count(9), 1);
        due("words() is undone, and the sheet with it", x.undo(), 0);
        due("no words", x.count(6), 0);
        RingedPage y = new RingedPage();
        y.sheet(1, 0, 2, 0, 1, 0);
        due("nothing at all", y.undo(), NONE);
        RingedPage z = fives();
        z.sheet(1, 0, 2, 4, 1, 0);
        z.weighs(0, 1);
        z.undo();
        due("a later change is undone without the sheet", wordsOf(z, 1), "1111");
    }

    private static void sheetInAll() {
        edge("Promise 6", "nothing changes but if it is done in all.");
        RingedPage x = fives();
        due("the last is too large", x, x.sheet(1, 0, 2, 4, 7, 1), -4, 3, 2);
        due("the last is too small", x, x.sheet(1, 0, 2, 4, 3, -1), -4, 3, 2);
        due("the last has no word", x, x.sheet(1, 1, 2, 4, 6, 1), -4, 3, 1);
        due("nothing is another", wordsOf(x, 1), "5555");
        due("nothing to undo but words()", x.count(9), 1);
    }

    private static void sheetBelowNought() {
        edge("Promise 6", "-2: n below 0;");
        for (int kind = 0; kind < 3; kind++) {
            int sort = kind;
            refused("-1 of kind " + kind, EdgeTextsTest::fives, x -> x.sheet(1, 0, sort, -1, 4, 0), -2);
            refused("far below, of kind " + kind, EdgeTextsTest::fives, x -> x.sheet(1, 0, sort, MIN, 4, 0), -2);
            refused("-1, no such WORD, of kind " + kind, EdgeTextsTest::fives, x -> x.sheet(1, 9, sort, -1, 40, 0), -2);
            due("0 of kind " + kind, fives().sheet(1, 0, kind, 0, 4, 0), 0);
        }
    }

    private static void sheetEntries() {
        edge("Promise 6", "-4: an entry can't be (the ROW: which entry;");
        RingedPage x = fives();
        due("the first", x, x.sheet(1, 0, 2, 4, 0, 1), -4, 0, 2);
        due("the second", x, x.sheet(1, 0, 2, 4, 9, 1), -4, 1, 2);
        due("the last", x, x.sheet(1, 0, 2, 4, 4, 2), -4, 3, 2);
        due("counted from the sheet's first, not from the TEXT's", x, x.sheet(1, 2, 2, 3, 4, 0), -4, 2, 1);
    }

    private static void sheetNoWord() {
        edge("Promise 6", "1 there is no such WORD,");
        RingedPage x = fives();
        due("a fifth of four", x, x.sheet(1, 0, 2, 5, 5, 0), -4, 4, 1);
        due("from the last on", x, x.sheet(1, 3, 2, 2, 5, 0), -4, 1, 1);
        due("from behind the last on", x, x.sheet(1, 4, 2, 1, 5, 0), -4, 0, 1);
        due("from -1 on", x, x.sheet(1, -1, 2, 3, 5, 0), -4, 0, 1);
        due("from far away on", x, x.sheet(1, MAX, 2, 3, 5, 0), -4, 0, 1);
        due("from far below on", x, x.sheet(1, MIN, 2, 3, 5, 0), -4, 0, 1);
        due("of a TEXT without words", x, x.sheet(0, 0, 2, 1, 5, 0), -4, 0, 1);
        due("no entries from far away on", x.sheet(1, MAX, 2, 0, 5, 0), 0);
        RingedPage y = page(40, 20, 1, 2, 10, 10, times("1", 69));
        due("70 of 69", y, y.sheet(0, 0, 2, 70, 5, 0), -4, 69, 1);
        due("nothing changes", wordsOf(x, 1), "5555");
    }

    private static void sheetNoSize() {
        edge("Promise 6", "2 it is not 1 .. 9;");
        for (int kind = 0; kind < 3; kind++) {
            for (int size : new int[] {0, 10, -1, -128}) {
                RingedPage x = fives();
                due("size " + size + ", kind " + kind, x, x.sheet(1, 0, kind, 1, size, 0), -4, 0, 2);
            }
            RingedPage y = fives();
            due("size 1, kind " + kind, y.sheet(1, 0, kind, 1, 1, 0), 1);
            due("size 9, kind " + kind, y.sheet(1, 1, kind, 1, 9, 0), 1);
            due("they are it, kind " + kind, wordsOf(y, 1), "1955");
        }
    }

    private static void sheetFirstOfThese() {
        edge("Promise 6", "the first such one; of one the first of these).");
        RingedPage x = fives();
        due("no size ahead of no word", x, x.sheet(1, 2, 2, 4, 9, 1), -4, 1, 2);
        due("no word ahead of no size", x, x.sheet(1, 3, 2, 4, 8, 1), -4, 1, 1);
        due("both of one", x, x.sheet(1, 4, 2, 1, 0, 0), -4, 0, 1);
        due("both of one, behind others", x, x.sheet(1, 2, 2, 3, 8, 1), -4, 2, 1);
    }

    private static void sheetNone() {
        edge("Promise 6", "NONE: no such TEXT, another kind, n above 70 (these first).");
        for (int which : NO_TEXTS) {
            refused("TEXT " + which, EdgeTextsTest::fives, x -> x.sheet(which, 0, 2, 1, 4, 0), NONE);
            refused("TEXT " + which + ", n below 0", EdgeTextsTest::fives, x -> x.sheet(which, 0, 2, -1, 4, 0), NONE);
            refused("TEXT " + which + ", missing", EdgeTextsTest::fives, x -> x.sheet(which, 0, 3, 1, 4, 0), NONE);
        }
        for (int kind : new int[] {-1, 4, MIN, MAX}) {
            refused("kind " + kind, EdgeTextsTest::fives, x -> x.sheet(1, 0, kind, 1, 4, 0), NONE);
            refused("kind " + kind + ", n below 0", EdgeTextsTest::fives, x -> x.sheet(1, 0, kind, -1, 4, 0), NONE);
        }
        for (int n : new int[] {71, MAX}) {
            for (int kind = 0; kind < 4; kind++) {
                int sort = kind;
                refused("n " + n + ", kind " + kind, EdgeTextsTest::fives, x -> x.sheet(1, 0, sort, n, 4, 0), NONE);
            }
        }
    }
}
