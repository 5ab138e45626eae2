import java.util.function.ToIntFunction;

/** The edges that promises 20 to 28 name: what would be. */
public final class EdgeWouldBeTest extends Checks {
    private static final String NINES = times("9", 70);

    public static void main(String[] args) {
        by();
        byWhatCannotBe();
        best();
        bestAtTheEdges();
        bestOfOthers();
        near();
        nearFirst();
        nearOfOthers();
        climbsToNeighbours();
        climbsAsFarAsCanBe();
        climbsToTheFirstOfEqualOnes();
        climbsAsLongAsItCostsLess();
        climbsTellsThePlan();
        narrow();
        narrowByThisPlan();
        narrowNone();
        low();
        lowNone();
        more();
        moreBehindAll();
        moreTies();
        moreWith70();
        moreNone();
        less();
        lessTies();
        lessNone();
        spare();
        spareAtMost70();
        spareApart();
        spareNone();
        finishParts("Promise 20", "Promise 21", "Promise 22", "Promise 23", "Promise 24", "Promise 25", "Promise 26", "Promise 27",
            "Promise 28");
    }

    // ---- promise 20

    private static void by() {
        edge("Promise 20", "COST by a PLAN; the ROW: PAGES, ENDS APART, BROKEN TIES, RAGGED.");
        RingedPage x = smallTied();
        due("another plan", x, x.by(0, 10, 10), 10008, 2, 1, 0, 8);
        due("the plan as it is", x, x.by(1, 10, 10), 20203, 2, 2, 2, 3);
        due("it stays", planOf(x), "1 10 10");
        RingedPage y = new RingedPage();
        due("without words", y, y.by(9, 9, 20), 0, 0, 0, 0, 0);
    }

    private static void byWhatCannotBe() {
        edge("Promise 20", "NONE: it can't be.");
        // H 5, W 40
        int[][] cannot = {{-1, 10, 10}, {5, 10, 10}, {10, 10, 10}, {2, 8, 10}, {2, 10, 8}, {2, 20, 10}, {2, 10, 20}, {2, 41, 9}, {2, 9, 41},
            {MIN, 10, 10}, {MAX, 10, 10}, {2, MIN, 10}, {2, MAX, 10}, {2, 10, MIN}, {2, 10, MAX}, {2, MAX, MAX}, {2, MIN, MIN}};
        for (int[] c : cannot) {
            refused(c[0] + " " + c[1] + " " + c[2], Checks::busy, x -> x.by(c[0], c[1], c[2]), NONE);
        }
        int[][] can = {{0, 10, 10}, {4, 10, 10}, {2, 9, 9}, {2, 20, 9}, {2, 9, 20}};
        for (int[] c : can) {
            due("it can be, " + c[0] + " " + c[1] + " " + c[2], busy().by(c[0], c[1], c[2]) >= 0, true);
        }
    }

    // ---- promise 21

    /** MAIN has one word, INNER as many as four in each of so many lines, and one. */
    private static RingedPage tower(int h, int crown, int lines) {
        return page(40, h, 1, crown, 10, 10, "9", times("9", 4 * lines + 1));
    }

    private static void best() {
        edge("Promise 21", "BEST in the GRID of CROWNS to a most (0 .. 9), of a step (1 .. 9): its COST; "
            + "the ROW: CROWN, SHARES, how many PLANS there are in the GRID.");
        RingedPage x = new RingedPage();
        due("the least of both", x, x.best(0, 1), 0, 0, 9, 9, 78);
        due("the greatest of both", x, x.best(9, 9), 0, 0, 9, 9, 30);
        // by a crown of 9 the last word of INNER stands beside MAIN, nine lines of 1 ragged over it
        RingedPage y = tower(20, 2, 9);
        due("a crown of 9", y, y.best(9, 9), 9, 9, 9, 9, 30);
        due("a crown of 8 at most", y, y.best(8, 9), 10008, 8, 9, 9, 27);
        due("no crown", y, y.best(0, 9), 90000 + 8, 0, 9, 9, 3);
        due("the plan stays", planOf(y), "2 10 10");
    }

    private static void bestAtTheEdges() {
        RingedPage low = tower(9, 2, 9);
        due("crowns below H alone", low, low.best(9, 9), 10008, 8, 9, 9, 27);
        low.sets(1, 10);
        due("H one more", low, low.best(9, 9), 9, 9, 9, 9, 30);
        // OUTER's five words fill 40 columns: the greatest share
        RingedPage wide = page(60, 20, 1, 0, 9, 9, "9", "", "99981");
        due("the greatest share", wide, wide.best(9, 1), 0, 0, 9, 40, 5280);
        wide.swaps();
        due("the greatest share of INNER", wide, wide.best(9, 1), 0, 0, 40, 9, 5280);
        due("steps that miss it", wide.best(9, 9) > 0, true);
        due("how many by 9", wide.row(3), 100L);
    }

    private static void bestOfOthers() {
        edge("Promise 21", "NONE: others.");
        int[][] others = {{-1, 1}, {10, 1}, {0, 0}, {0, 10}, {MIN, 1}, {MAX, 1}, {0, MIN}, {0, MAX}, {-1, 0}, {10, 10}};
        for (int[] c : others) {
            refused(c[0] + " " + c[1], Checks::busy, x -> x.best(c[0], c[1]), NONE);
        }
    }

    // ---- promise 22

    private static void near() {
        edge("Promise 22", "How many PLANS of that GRID have ENDS APART of n (0 .. 99) at most;");
        // by a crown of c they end 9 - c apart, each by three plans
        RingedPage x = tower(20, 2, 9);
        for (int n = 0; n <= 9; n++) {
            due("at most " + n, x, x.near(9, 9, n), 3 * (n + 1), 9 - n, 9, 9);
        }
        due("at most 99", x, x.near(9, 9, 99), 30, 0, 9, 9);
        due("crowns to 8, apart by 1", x, x.near(8, 9, 1), 3, 8, 9, 9);
        RingedPage y = new RingedPage();
        due("without words", y, y.near(9, 1, 0), 780, 0, 9, 9);
    }

    private static void nearFirst() {
        edge("Promise 22", "the ROW: the first of them (three numbers; nothing without).");
        RingedPage x = tower(20, 2, 9);
        x.cost();
        due("nothing", x, x.near(8, 9, 0), 0);
        due("no number", rowThrows(x, 0), true);
        due("none is counted", x.count(10), 0);
        // OUTER has both words beside MAIN from a share of 19 on
        RingedPage y = page(40, 20, 1, 0, 9, 9, "9", "", "99");
        due("the first by its OUTER", y, y.near(2, 1, 0), 3, 0, 9, 19);
        y.swaps();
        due("the first by its INNER", y, y.near(2, 1, 0), 3, 0, 19, 9);
    }

    private static void nearOfOthers() {
        edge("Promise 22", "NONE: others.");
        int[][] others = {{-1, 1, 0}, {10, 1, 0}, {0, 0, 0}, {0, 10, 0}, {0, 1, -1}, {0, 1, 100}, {MIN, 1, 0}, {MAX, 1, 0}, {0, MIN, 0},
            {0, MAX, 0}, {0, 1, MIN}, {0, 1, MAX}};
        for (int[] c : others) {
            refused(c[0] + " " + c[1] + " " + c[2], Checks::busy, x -> x.near(c[0], c[1], c[2]), NONE);
        }
    }

    // ---- promise 23

    private static void climbsToNeighbours() {
        edge("Promise 23", "From the PLAN, again and again, to that one of its neighbours "
            + "(CROWN, SHARE of INNER, of OUTER one less or one more; one of these alone) that costs least");
        RingedPage x = tower(20, 2, 9);
        due("seven crowns more", x, x.climbs(), 7, 9, 10, 10, 9);
        RingedPage y = page(40, 20, 1, 0, 14, 9, "9", "", "99");
        // the share of OUTER would have to be 19 for less: one more alone does not help
        due("no step over two at once", y, y.climbs(), 0, 0, 14, 9, 10000);
        // 1 7 5 1 fill 17 columns; INNER's 9 fills 9: one less of INNER, then one more of OUTER, or the other way
        RingedPage z = page(40, 20, 1, 0, 10, 11, "175193", "94", "3");
        due("two shares", climbsByHand(z) > 0, true);
    }

    /** Neighbours that can't be are none: each of these would be gone to, if it could be. */
    private static void climbsAsFarAsCanBe() {
        // four crowns at most; then INNER's ninth column is enough for its word beside MAIN
        RingedPage low = tower(5, 2, 9);
        due("a crown below H", low, low.climbs(), 3, 4, 9, 10, 50008);
        RingedPage high = tower(20, 9, 10);
        due("a crown of 9 at most", high, high.climbs(), 1, 9, 9, 10, 10009);
        // by 10 columns both words would stand in line 0, by 8 the first would leave less; by a crown the tie breaks
        RingedPage full = page(29, 20, 1, 0, 9, 9, "9", "54");
        ties(full, "i0000");
        due("shares as they are", full, full.climbs(), 0, 0, 9, 9, 10016);
        full.sets(0, 30);
        due("INNER one more, where it can be", full, full.climbs(), 1, 0, 10, 9, 0);
        full.swaps();
        due("OUTER one more, where it can be", full, full.climbs(), 1, 0, 9, 10, 0);
        RingedPage narrow = page(29, 20, 1, 0, 9, 9, "9", times("9", 7));
        // by a crown of 2 the last of INNER stands beside MAIN
        due("crowns alone", narrow, narrow.climbs(), 2, 2, 9, 9, 0);
    }

    private static void climbsToTheFirstOfEqualOnes() {
        edge("Promise 23", "(of equal ones the first: CROWN less, more, INNER less, more, OUTER less, more),");
        equalOnes(40, 0, 1, 1, 9, 9, "2", "97", "148744");
        equalOnes(40, 0, 2, 1, 16, 13, "4481359693", "561186", "244");
        equalOnes(40, 0, 3, 1, 9, 9, "43", "77127", "5");
        equalOnes(40, 0, 4, 1, 18, 11, "7166137632222", "7", "9172");
        equalOnes(40, 0, 5, 1, 9, 9, "642", "1", "85472");
        equalOnes(40, 1, 2, 0, 16, 9, "1833", "2", "2");
        equalOnes(40, 1, 3, 0, 9, 11, "74873", "9", "");
        equalOnes(40, 1, 4, 0, 9, 14, "4376", "6", "1");
        equalOnes(40, 1, 5, 0, 9, 17, "2", "", "9528");
        equalOnes(40, 2, 3, 0, 15, 13, "992296", "7527", "");
        equalOnes(40, 2, 4, 0, 12, 12, "256", "3", "9");
        equalOnes(60, 3, 4, 0, 22, 12, "73869436", "673253732", "9739");
        equalOnes(40, 3, 5, 0, 14, 10, "9731", "859", "6361");
        equalOnes(40, 4, 5, 0, 9, 14, "4", "3", "841669");
    }

    /** Two neighbours (0: CROWN less .. 5: OUTER more) cost the same, and least; from neither a step goes on. */
    private static void equalOnes(int w, int first, int second, int crown, int inner, int outer, String... texts) {
        RingedPage x = page(w, 20, 1, crown, inner, outer, texts);
        int[] one = neighbour(first, crown, inner, outer);
        int[] two = neighbour(second, crown, inner, outer);
        int cost = x.by(one[0], one[1], one[2]);
        due(first + " and " + second + " cost the same", x.by(two[0], two[1], two[2]), cost);
        due(first + " costs less", cost < x.cost(), true);
        due("to " + first + ", not to " + second, x, x.climbs(), 1, one[0], one[1], one[2], cost);
    }

    private static int[] neighbour(int i, int crown, int inner, int outer) {
        int[] plan = {crown, inner, outer};
        plan[i / 2] += i % 2 == 0 ? -1 : 1;
        return plan;
    }

    private static void climbsAsLongAsItCostsLess() {
        edge("Promise 23", "as long as that costs less: how many steps;");
        RingedPage x = new RingedPage();
        due("all cost the same", x, x.climbs(), 0, 2, 10, 10, 0);
        RingedPage y = page(40, 20, 1, 4, 10, 10, "9", times("9", 9));
        // by a crown of 3 it costs the same, by 2 less
        due("not over one that costs the same", y, y.climbs(), 0, 4, 10, 10, 10002);
        y.plans(3, 10, 10);
        due("one step", y, y.climbs(), 1, 2, 10, 10, 2);
        y.plans(2, 10, 10);
        due("none from there", y, y.climbs(), 0, 2, 10, 10, 2);
    }

    private static void climbsTellsThePlan() {
        edge("Promise 23", "the ROW: the PLAN to which one comes, its COST.");
        RingedPage x = tower(20, 0, 9);
        due("nine steps", x, x.climbs(), 9, 9, 10, 10, 9);
        due("what it costs", x.by(9, 10, 10), 9);
        due("the plan stays", planOf(x), "0 10 10");
    }

    // ---- promise 24

    /** Three lines of eight words, each 60 wide with the blanks between. */
    private static RingedPage sixty(String more) {
        RingedPage x = page(40, 3, 1, 0, 9, 9, more + times("77777666", 3).substring(more.length()));
        x.cost();
        return x;
    }

    private static void narrow() {
        edge("Promise 24", "The least W by which all stands on n PAGES (1 .. 9) at most");
        RingedPage x = sixty("");
        due("60", x, x.narrow(1), 60, 1);
        due("W stays", x.count(0), 40);
        RingedPage y = page(40, 3, 1, 0, 9, 9, times("9", 9));
        due("29", y, y.narrow(1), 29, 1);
        RingedPage z = page(60, 8, 1, 0, 9, 9, NINES, NINES, NINES);
        // W 29: one word of each TEXT in each of 70 lines, nine pages of 8
        due("on nine pages", z, z.narrow(9), 29, 9);
        z.sets(1, 7);
        due("on nine pages of 7, not by 29", z.narrow(9) > 29, true);
        RingedPage none = page(60, 8, 1, 0, 9, 9);
        due("without words", none, none.narrow(1), 29, 0);
        due("one less is too narrow", tooNarrow(y), true);
    }

    /** By the width that narrow() tells all stands on n pages, by one less it does not. */
    private static boolean tooNarrow(RingedPage x) {
        words(x, 0, "98765432198765432198765432198765432");
        boolean holds = true;
        for (int n = 1; n <= 4; n++) {
            int w = x.narrow(n);
            if (w > 29) {
                RingedPage at = page(w, 3, 1, 0, 9, 9, wordsOf(x, 0));
                RingedPage below = page(w - 1, 3, 1, 0, 9, 9, wordsOf(x, 0));
                holds &= at.pages() <= n && below.pages() > n;
            }
        }
        return holds;
    }

    private static void narrowByThisPlan() {
        edge("Promise 24", "(by this PLAN; as far as it can be): it; the ROW: PAGES then.");
        int[][] cases = {{1, 9, 9, 29}, {1, 10, 9, 30}, {1, 10, 10, 31}, {1, 20, 9, 40}, {2, 9, 9, 31}, {3, 9, 9, 33}, {4, 9, 9, 35},
            {4, 12, 11, 40}};
        for (int[] c : cases) {
            RingedPage x = page(40, 20, c[0], 2, c[1], c[2], "9");
            due("GUTTER " + c[0] + ", SHARES " + c[1] + " " + c[2], x, x.narrow(1), c[3], 1);
        }
        RingedPage wide = page(60, 20, 1, 2, 40, 9, "9");
        due("by the greatest shares", wide, wide.narrow(9), 60, 1);
        // MAIN beside INNER and then alone: by 29 it has 2, 3, 3 words in three lines, by 39 it has 3, 4, 2
        RingedPage x = page(40, 3, 1, 0, 9, 9, times("9", 9), "9");
        due("beside a comment", x, x.narrow(1), 39, 1);
    }

    private static void narrowNone() {
        edge("Promise 24", "-2: none;");
        refused("not by 60", () -> sixty("8"), x -> x.narrow(1), -2);
        due("on two pages", sixty("8").narrow(2) > 0, true);
        edge("Promise 24", "NONE: another n.");
        for (int n : new int[] {0, 10, -1, MIN, MAX}) {
            refused("n " + n, Checks::busy, x -> x.narrow(n), NONE);
            refused("n " + n + ", where there would be none", () -> sixty("8"), x -> x.narrow(n), NONE);
        }
    }

    // ---- promise 25

    private static RingedPage lines(int n) {
        RingedPage x = page(29, 20, 1, 0, 9, 9, times("9", n), times("9", n), times("9", n));
        x.cost();
        return x;
    }

    private static void low() {
        edge("Promise 25", "The least H likewise.");
        int[][] cases = {{1, 1, 3, 1}, {3, 1, 3, 1}, {4, 1, 4, 1}, {4, 2, 3, 2}, {40, 1, 40, 1}, {41, 2, 21, 2}, {70, 2, 35, 2}, {70, 9, 8, 9},
            {27, 9, 3, 9}, {28, 9, 4, 7}};
        for (int[] c : cases) {
            RingedPage x = lines(c[0]);
            due(c[0] + " lines on " + c[1] + " pages", x, x.low(c[1]), c[2], c[3]);
            due("H stays", x.count(1), 20);
        }
        RingedPage none = new RingedPage();
        due("without words", none, none.low(1), 3, 0);
        for (int crown = 3; crown <= 9; crown++) {
            RingedPage x = page(40, 20, 1, crown, 10, 10, "9");
            due("more than the crown, " + crown, x, x.low(9), crown + 1, 1);
        }
        RingedPage x = page(40, 20, 1, 2, 10, 10, "9");
        due("a crown of 2", x, x.low(9), 3, 1);
    }

    private static void lowNone() {
        edge("Promise 25", "-2: none;");
        refused("41 lines on one page", EdgeWouldBeTest::lines41, x -> x.low(1), -2);
        due("40 lines on one page", lines(40).low(1), 40);
        edge("Promise 25", "NONE: another n.");
        for (int n : new int[] {0, 10, -1, MIN, MAX}) {
            refused("n " + n, Checks::busy, x -> x.low(n), NONE);
        }
    }

    private static RingedPage lines41() {
        return lines(41);
    }

    // ---- promise 26

    /**
     * MAIN stands in line 0, INNER 0 beside it, then four words of INNER in each line: 21 - 24 in line 6, 25 in line 7.
     * One tie, 6 deep: INNER 24 to MAIN 2. Seven lines are ragged by 1.
     */
    private static RingedPage tied() {
        RingedPage x = page(40, 20, 1, 0, 10, 10, "999", times("9", 26));
        due("its tie", ties(x, "i2402"), 1);
        due("what it costs", x, x.cost(), 70007, 7, 0, 7);
        return x;
    }

    private static void more() {
        edge("Promise 26", "COST, were a WORD of a SIZE put ahead of WORD k of a TEXT");
        RingedPage x = page(40, 20, 1, 0, 10, 10, "999");
        // 9 9 9 9 in 40 would leave 1, and one more than four stands in the next line
        due("within the line", x.more(0, 0, 9), 0);
        words(x, 0, "9999");
        due("one line more", x.more(0, 0, 9), 1);
        due("the smallest ahead of all", x.more(0, 0, 1), square(40 - 31));
        due("the smallest ahead of the last", x.more(0, 3, 1), square(40 - 31));
        due("nothing has changed", wordsOf(x, 0), "9999");
        RingedPage none = new RingedPage();
        due("the first word of all", none.more(1, 0, 9), 0);
        due("the smallest, the first word of all", none.more(2, 0, 1), 0);
        RingedPage seventy = page(40, 20, 1, 0, 10, 10, times("1", 69));
        due("a 70th", seventy.more(0, 0, 1) >= 0, true);
    }

    private static int square(int n) {
        return n * n;
    }

    private static void moreBehindAll() {
        edge("Promise 26", "(k its number of WORDS: behind all;");
        RingedPage x = page(40, 20, 1, 0, 10, 10, "9999");
        // 9 9 9 9 leave 1 of 40, behind them one more has a line of its own
        due("behind four", x.more(0, 4, 5), 1);
        due("behind none", x.more(1, 0, 5) >= 0, true);
        refused("behind one more than there are", Checks::busy, y -> y.more(0, 4, 5), NONE);
        due("behind all", busy().more(0, 3, 5), 10100);
        due("behind all 69", page(40, 20, 1, 0, 10, 10, times("1", 69)).more(0, 69, 1) >= 0, true);
    }

    private static void moreTies() {
        edge("Promise 26", "TIES go on with their WORDS).");
        due("ahead of all of INNER: 7 deep", tied().more(1, 0, 9), 70107);
        due("ahead of the word that is tied: 7 deep", tied().more(1, 24, 9), 70107);
        due("behind it: 6 deep", tied().more(1, 25, 9), 70007);
        due("behind all: 6 deep", tied().more(1, 26, 9), 70007);
        // MAIN has 9 9 9 in line 0 and one more in line 1, and INNER 24 is in line 7 then
        due("ahead of all of MAIN: 6 deep", tied().more(0, 0, 9), 60007);
        due("ahead of MAIN's word that is tied: 6 deep", tied().more(0, 2, 9), 60007);
        due("behind MAIN's word that is tied: 7 deep", tied().more(0, 3, 9), 60107);
    }

    private static void moreWith70() {
        edge("Promise 26", "-3: it has 70;");
        for (int k : new int[] {0, 35, 69, 70}) {
            refused("ahead of " + k, Checks::full, x -> x.more(1, k, 5), -3);
        }
        due("another TEXT of it", full().more(0, 0, 5) >= 0, true);
    }

    private static void moreNone() {
        edge("Promise 26", "NONE: no such TEXT, place, SIZE.");
        for (int which : NO_TEXTS) {
            refused("TEXT " + which, Checks::busy, x -> x.more(which, 0, 5), NONE);
        }
        for (int k : new int[] {-1, 3, MIN, MAX}) {
            refused("place " + k, Checks::busy, x -> x.more(1, k, 5), NONE);
        }
        refused("place 71 of 70", Checks::full, x -> x.more(1, 71, 5), NONE);
        for (int size : new int[] {0, 10, -1, MIN, MAX}) {
            refused("SIZE " + size, Checks::busy, x -> x.more(1, 0, size), NONE);
            refused("SIZE " + size + ", with 70", Checks::full, x -> x.more(1, 0, size), NONE);
        }
    }

    // ---- promise 27

    private static void less() {
        edge("Promise 27", "COST, were WORD k of a TEXT not there");
        RingedPage x = page(40, 20, 1, 0, 10, 10, "98769");
        // 9 8 7 6 leave 7 of 40; without one of them all stand in one line
        due("with all", x.cost(), 49);
        due("without the first", x.less(0, 0), 0);
        due("without the last", x.less(0, 4), 0);
        due("nothing has changed", wordsOf(x, 0), "98769");
        RingedPage y = page(40, 20, 1, 0, 10, 10, "99998");
        due("without the last but one", y.less(0, 3), 0);
        RingedPage one = page(40, 20, 1, 2, 10, 10, "9", "", "9");
        due("both", one.cost(), 10000);
        due("without the only one of OUTER", one.less(2, 0), 0);
        due("without the only one of MAIN", one.less(0, 0), 0);
        RingedPage seventy = page(29, 20, 1, 0, 9, 9, NINES);
        due("without the 70th", seventy.less(0, 69) >= 0, true);
    }

    private static void lessTies() {
        edge("Promise 27", "(TIES to it, of it, too).");
        due("with its tie", busy().cost(), 10100);
        due("the tie of it goes", busy().less(1, 0), 10000);
        due("the tie to it goes", busy().less(0, 2), 10000);
        due("others of INNER", busy().less(1, 1), 10100);
        due("others of MAIN", busy().less(0, 0), 10100);
        due("one of OUTER", busy().less(2, 0), 10100);
        due("ahead of a word that is tied: it goes on with its word", lessAhead(), 70007);
        due("it has its tie", busy().count(8), 1);
    }

    /** INNER 25 in line 7 is 7 deep; without a word ahead of it, it is 6 deep. */
    private static int lessAhead() {
        RingedPage x = page(40, 20, 1, 0, 10, 10, "999", times("9", 27));
        ties(x, "i2500");
        due("7 deep", x.cost(), 70107);
        return x.less(1, 0);
    }

    private static void lessNone() {
        edge("Promise 27", "NONE: none such.");
        int[][] none = {{0, 3}, {1, 2}, {2, 1}, {0, -1}, {0, MIN}, {0, MAX}, {-1, 0}, {3, 0}, {MIN, 0}, {MAX, 0}};
        for (int[] c : none) {
            refused("TEXT " + c[0] + ", WORD " + c[1], Checks::busy, x -> x.less(c[0], c[1]), NONE);
        }
        due("a TEXT without words", new RingedPage().less(0, 0), NONE);
        due("the 71st", full().less(1, 70), NONE);
    }

    // ---- promise 28

    private static void spare() {
        edge("Promise 28", "WORDS of SIZE 5 that INNER (what 1), OUTER (2) could have more behind all, "
            + "all standing on as many PAGES as now,");
        for (int what = 1; what < 3; what++) {
            // two crown lines of six words, one word beside MAIN
            RingedPage x = page(40, 3, 1, 2, 10, 10, "5");
            due("thirteen of " + what, x, x.spare(what), 13, 0);
            words(x, what, times("5", 13));
            due("all are on one page, " + what, x.pages(), 1);
            due("none more of " + what, x, x.spare(what), 0, 0);
            x.comes(what, 13, 5);
            due("one more is too many, " + what, x.pages(), 2);
            // page 1 has lines of six now, of which one word is there
            due("on two pages, " + what, x, x.spare(what), 17, 3);
            words(x, what, times("5", 12) + "9");
            due("none beside a word of 9, " + what, x, x.spare(what), 0, 0);
        }
        due("behind all: a word of 5 ends the line of 40", spareBehind(), "1 0 1");
    }

    /** INNER alone: what could come behind 9 9 9, and behind 9 9 9 6, on one page of three lines. */
    private static String spareBehind() {
        ToIntFunction<String> spare = words -> page(40, 3, 1, 0, 10, 10, "", words, "").spare(1);
        return spare.applyAsInt(times("9", 8) + "999") + " " + spare.applyAsInt(times("9", 8) + "9996") + " "
            + spare.applyAsInt(times("9", 8) + "9994");
    }

    private static void spareAtMost70() {
        edge("Promise 28", "70 in all at most: how many;");
        RingedPage x = page(40, 40, 1, 2, 10, 10, "5");
        due("70", x, x.spare(1), 70, 10);
        words(x, 1, times("5", 69));
        due("one", x.spare(1), 1);
        words(x, 1, times("5", 70));
        due("none", x.spare(1), 0);
        due("70 of the other", x.spare(2) > 0, true);
    }

    private static void spareApart() {
        edge("Promise 28", "the ROW: ENDS APART then.");
        RingedPage x = page(40, 20, 1, 0, 10, 10, "5", "5");
        // one beside MAIN, then six in each line: 69 more in lines 1 .. 12
        due("as many as there can be", x, x.spare(1), 69, 12);
        due("now they end together", x.apart(), 0);
        RingedPage y = page(40, 3, 1, 2, 10, 10, "5", times("5", 13));
        y.cost();
        due("with none more, as now", y, y.spare(1), 0, 0);
        RingedPage z = page(29, 3, 1, 0, 9, 9, times("9", 9), "9", "");
        // MAIN now has 2, 3, 3, 1 words; beside INNER 2, 2, 2, 2, 1, with one of 5 from line 1 on, and five in line 5
        due("two pages", z, z.spare(1), 9, 1);
    }

    private static void spareNone() {
        edge("Promise 28", "-2: there are no PAGES;");
        refused("INNER", Checks::withARow, x -> x.spare(1), -2);
        refused("OUTER", Checks::withARow, x -> x.spare(2), -2);
        edge("Promise 28", "NONE: another what.");
        for (int what : new int[] {-1, 0, 3, MIN, MAX}) {
            refused("what " + what, Checks::busy, x -> x.spare(what), NONE);
            refused("what " + what + ", without PAGES", Checks::withARow, x -> x.spare(what), NONE);
        }
    }

}
