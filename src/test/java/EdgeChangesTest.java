import java.util.ArrayList;
import java.util.List;
import java.util.function.ToIntFunction;

/** The edges that promises 29 to 38 name: changes, days, undo(), years(). */
public final class EdgeChangesTest extends Checks {
    public static void main(String[] args) {
        sets();
        setsAsItIs();
        setsAsThePlanCannotBe();
        setsOfOthers();
        weighs();
        weighsAsItIs();
        weighsOfOthers();
        swaps();
        swapsOfNone();
        plans();
        plansAsItIs();
        plansThatCannotBe();
        takesBest();
        takesBestAsItIs();
        takesBestOfOthers();
        comes();
        comesWith70();
        comesOfOthers();
        goes();
        goesOfNone();
        dayThatIsEmpty();
        dayWithoutSignsBetween();
        dayWidth();
        dayHeight();
        dayGutter();
        daySwaps();
        dayPlans();
        dayComes();
        dayGoes();
        dayBest();
        dayTillOneCannotBe();
        dayTells();
        daySigns();
        dayNumbersThatCannotBe();
        dayEndsTooEarly();
        dayNothingDone();
        undoOfEachKind();
        undoOfSeven();
        undoOfSuchAsWereDone();
        undoOfADay();
        undoOfAllThatTermsTell();
        undoLeft();
        undoOfNone();
        undoAndAgain();
        yearsTimes();
        yearsForgotten();
        yearsTextAndSize();
        yearsBehindAll();
        yearsWith70();
        yearsTold();
        yearsOfOthers();
        yearsDraws();
        finishParts("Promise 29", "Promise 30", "Promise 31", "Promise 32", "Promise 33", "Promise 34", "Promise 35", "Promise 36",
            "Promise 37", "Promise 38");
    }

    // ---- promise 29

    private static void sets() {
        edge("Promise 29", "W (what 0), H (1), GUTTER (2) becomes v: what it was.");
        // what, the number that count() tells it by, the least, the most
        int[][] cases = {{0, 0, 29, 60}, {1, 1, 3, 40}, {2, 12, 1, 4}};
        for (int[] c : cases) {
            RingedPage x = page(40, 20, 1, 0, 9, 9);
            x.sets(c[0], c[0] == 2 ? 2 : 30);
            int was = x.count(c[1]);
            due("the least, what " + c[0], x.sets(c[0], c[2]), was);
            due("it is that, what " + c[0], x.count(c[1]), c[2]);
            due("the most, what " + c[0], x.sets(c[0], c[3]), c[2]);
            due("it is this, what " + c[0], x.count(c[1]), c[3]);
            due("it can be undone, what " + c[0], x.undo() >= 0, true);
            due("it is as it was, what " + c[0], x.count(c[1]), c[2]);
        }
    }

    private static void setsAsItIs() {
        edge("Promise 29", "-2: it is so;");
        refused("W", Checks::busy, x -> x.sets(0, 40), -2);
        refused("H", Checks::busy, x -> x.sets(1, 5), -2);
        refused("GUTTER", Checks::busy, x -> x.sets(2, 1), -2);
    }

    private static void setsAsThePlanCannotBe() {
        edge("Promise 29", "-3: this PLAN can't be by it;");
        // W 40, H 5, GUTTER 1; CROWN 2, SHARES 10 and 10
        for (int w : new int[] {29, 30}) {
            refused("W " + w, Checks::busy, x -> x.sets(0, w), -3);
        }
        due("W 31", busy().sets(0, 31), 40);
        due("H 3", busy().sets(1, 3), 5);
        for (int h : new int[] {3, 4}) {
            refused("H " + h, () -> planned(4, 10, 10), x -> x.sets(1, h), -3);
        }
        due("H 6", planned(4, 10, 10).sets(1, 6), 5);
        for (int gutter : new int[] {2, 3, 4}) {
            refused("GUTTER " + gutter, () -> planned(2, 20, 9), x -> x.sets(2, gutter), -3);
        }
        due("GUTTER 2", planned(2, 18, 9).sets(2, 2), 1);
        due("GUTTER 4", planned(2, 14, 9).sets(2, 4), 1);
        refused("GUTTER 4, one column less", () -> planned(2, 15, 9), x -> x.sets(2, 4), -3);
    }

    private static void setsOfOthers() {
        edge("Promise 29", "NONE: others.");
        int[][] others = {{0, 28}, {0, 61}, {1, 2}, {1, 41}, {2, 0}, {2, 5}, {0, -1}, {1, -1}, {2, -1}, {0, 0}, {1, 0}, {0, MIN}, {0, MAX},
            {1, MIN}, {1, MAX}, {2, MIN}, {2, MAX}, {-1, 3}, {3, 3}, {MIN, 3}, {MAX, 3}, {3, 40}};
        for (int[] c : others) {
            refused("what " + c[0] + ", " + c[1], Checks::busy, x -> x.sets(c[0], c[1]), NONE);
        }
    }

    // ---- promise 30

    private static void weighs() {
        edge("Promise 30", "A WEIGHT (what 0 .. 2) becomes v: what it was.");
        int[] first = {10000, 100, 1};
        int[] most = {10000, 10000, 100};
        for (int what = 0; what < 3; what++) {
            RingedPage x = new RingedPage();
            due("0, what " + what, x.weighs(what, 0), first[what]);
            due("the most, what " + what, x.weighs(what, most[what]), 0);
            due("it is that, what " + what, x.count(13 + what), most[what]);
            due("one less, what " + what, x.weighs(what, most[what] - 1), most[what]);
            due("1, what " + what, x.weighs(what, 1), most[what] - 1);
            due("it can be undone, what " + what, x.undo(), 3);
            due("as it was, what " + what, x.count(13 + what), most[what] - 1);
            for (int other = 0; other < 3; other++) {
                due("others stay, what " + what, other == what || x.count(13 + other) == first[other], true);
            }
        }
    }

    private static void weighsAsItIs() {
        edge("Promise 30", "-2: it is so;");
        refused("the first", Checks::busy, x -> x.weighs(0, 10000), -2);
        refused("the second", Checks::busy, x -> x.weighs(1, 100), -2);
        refused("the third", Checks::busy, x -> x.weighs(2, 3), -2);
        RingedPage x = new RingedPage();
        x.weighs(1, 0);
        due("0", x.weighs(1, 0), -2);
    }

    private static void weighsOfOthers() {
        edge("Promise 30", "NONE: others.");
        int[][] others = {{0, -1}, {0, 10001}, {1, -1}, {1, 10001}, {2, -1}, {2, 101}, {2, 10000}, {0, MIN}, {0, MAX}, {1, MAX}, {2, MAX},
            {-1, 1}, {3, 1}, {MIN, 1}, {MAX, 1}};
        for (int[] c : others) {
            refused("what " + c[0] + ", " + c[1], Checks::busy, x -> x.weighs(c[0], c[1]), NONE);
        }
    }

    // ---- promise 31

    private static void swaps() {
        edge("Promise 31", "INNER and OUTER change their WORDS, TIES go with these (SHARES stay): how many WORDS INNER has.");
        RingedPage x = smallTied();
        x.plans(1, 11, 9);
        due("three", x.swaps(), 3);
        due("INNER", wordsOf(x, 1), "999");
        due("OUTER", wordsOf(x, 2), "44444444");
        due("MAIN stays", wordsOf(x, 0), "555555555555");
        due("ties", tiesOf(x), "o0-0 o7-3 i2-8");
        due("shares", planOf(x), "1 11 9");
        RingedPage inner = page(40, 20, 1, 2, 10, 10, "", "12", "");
        due("INNER has none then", inner.swaps(), 0);
        due("OUTER has both", wordsOf(inner, 2), "12");
        due("it was done", inner.undo() >= 0, true);
        due("and is undone", wordsOf(inner, 1), "12");
        RingedPage twelve = twelveTies();
        due("with twelve ties", twelve.swaps(), 0);
        due("all go with their words", tiesOf(twelve).replaceAll("[^o]", ""), times("o", 12));
        RingedPage outer = page(40, 20, 1, 2, 10, 10, "", "", times("1", 70));
        due("INNER has 70 then", outer.swaps(), 70);
        due("OUTER has none", outer.count(7), 0);
    }

    /** INNER 0 .. 11 are tied to MAIN 0 .. 11. */
    private static RingedPage twelveTies() {
        RingedPage x = page(40, 20, 1, 2, 10, 10, times("5", 12), times("4", 12));
        due("twelve ties", ties(x, "i0000i0101i0202i0303i0404i0505i0606i0707i0808i0909i1010i1111"), 12);
        return x;
    }

    private static void swapsOfNone() {
        edge("Promise 31", "-2: neither has any.");
        refused("no words at all", RingedPage::new, x -> x.swaps(), -2);
        refused("MAIN alone", () -> page(40, 20, 1, 2, 10, 10, "123"), x -> x.swaps(), -2);
        due("INNER alone", page(40, 20, 1, 2, 10, 10, "", "1").swaps(), 0);
        due("OUTER alone", page(40, 20, 1, 2, 10, 10, "", "", "1").swaps(), 1);
    }

    // ---- promise 32

    private static void plans() {
        edge("Promise 32", "The PLAN becomes that: 10000 times the CROWN, 100 times the SHARE of INNER, and that of OUTER, as they were.");
        RingedPage x = new RingedPage();
        x.sets(0, 60);
        due("from the first one", x.plans(9, 40, 9), 21010);
        due("it is that", planOf(x), "9 40 9");
        due("the crown alone", x.plans(0, 40, 9), 94009);
        due("OUTER alone", x.plans(0, 39, 9), 4009);
        due("INNER alone", x.plans(0, 39, 10), 3909);
        due("to the least", x.plans(0, 9, 9), 3910);
        due("to the greatest of OUTER", x.plans(0, 9, 40), 909);
        due("from there", x.plans(0, 9, 9), 940);
        due("it can be undone", x.undo(), 6);
        due("as it was", planOf(x), "0 9 40");
    }

    private static void plansAsItIs() {
        edge("Promise 32", "-2: it is so;");
        refused("the same", Checks::busy, x -> x.plans(2, 10, 10), -2);
        due("another crown", busy().plans(1, 10, 10), 21010);
        due("another INNER", busy().plans(2, 9, 10), 21010);
        due("another OUTER", busy().plans(2, 10, 9), 21010);
    }

    private static void plansThatCannotBe() {
        edge("Promise 32", "NONE: it can't be.");
        int[][] cannot = {{-1, 10, 10}, {5, 10, 10}, {9, 10, 10}, {10, 10, 10}, {2, 8, 10}, {2, 10, 8}, {2, 20, 10}, {2, 10, 20}, {2, 15, 15},
            {2, 41, 9}, {2, 9, 41}, {MIN, 10, 10}, {MAX, 10, 10}, {2, MIN, 10}, {2, MAX, 10}, {2, 10, MIN}, {2, 10, MAX}, {2, MAX, MAX}};
        for (int[] c : cannot) {
            refused(c[0] + " " + c[1] + " " + c[2], Checks::busy, x -> x.plans(c[0], c[1], c[2]), NONE);
        }
    }

    // ---- promise 33

    private static void takesBest() {
        edge("Promise 33", "The PLAN becomes BEST (as best()): its COST.");
        for (int[] grid : new int[][] {{0, 1}, {0, 9}, {2, 1}, {9, 9}}) {
            RingedPage x = smallTied();
            int cost = x.best(grid[0], grid[1]);
            String plan = x.row(0) + " " + x.row(1) + " " + x.row(2);
            due("its cost, " + grid[0] + " by " + grid[1], x.takesBest(grid[0], grid[1]), cost);
            due("its plan, " + grid[0] + " by " + grid[1], planOf(x), plan);
            due("what it costs, " + grid[0] + " by " + grid[1], x.cost(), cost);
            x.undo();
            due("as it was, " + grid[0] + " by " + grid[1], planOf(x), "1 10 10");
        }
        RingedPage x = smallTied();
        int cost = smallTied().best(2, 1);
        due("without best() ahead of it", x.takesBest(2, 1), cost);
        due("it is that", x.cost(), cost);
        RingedPage none = new RingedPage();
        due("a cost of 0 is no refusal", none.takesBest(0, 1), 0);
        due("it is done", planOf(none), "0 9 9");
        due("it can be undone", none.undo(), 0);
    }

    private static void takesBestAsItIs() {
        edge("Promise 33", "-2: it is that;");
        refused("the first", () -> page(40, 20, 1, 0, 9, 9), x -> x.takesBest(9, 1), -2);
        RingedPage x = smallTied();
        x.takesBest(2, 1);
        due("a second time", x.takesBest(2, 1), -2);
        due("of the same cost, but another", page(40, 20, 1, 1, 9, 9).takesBest(9, 1), 0);
    }

    private static void takesBestOfOthers() {
        edge("Promise 33", "NONE: as best().");
        int[][] others = {{-1, 1}, {10, 1}, {0, 0}, {0, 10}, {MIN, 1}, {MAX, 1}, {0, MIN}, {0, MAX}};
        for (int[] c : others) {
            refused(c[0] + " by " + c[1], Checks::busy, x -> x.takesBest(c[0], c[1]), NONE);
        }
    }

    // ---- promise 34

    private static void comes() {
        edge("Promise 34", "A WORD of a SIZE comes ahead of WORD k (as more()): how many WORDS the TEXT has.");
        RingedPage x = smallTied();
        due("ahead of all", x.comes(2, 0, 1), 4);
        due("behind all", x.comes(2, 4, 2), 5);
        due("between", x.comes(2, 2, 3), 6);
        due("they are there", wordsOf(x, 2), "193992");
        due("ties go on with their words", tiesOf(x), "i0-0 i7-3 o4-8");
        due("ahead of a word of MAIN that is tied", x.comes(0, 3, 9), 13);
        due("behind one", x.comes(0, 5, 9), 14);
        due("ties go on with words of MAIN", tiesOf(x), "i0-0 i7-4 o4-10");
        due("the first of a TEXT", new RingedPage().comes(1, 0, 9), 1);
        RingedPage twelve = twelveTies();
        twelve.comes(1, 0, 1);
        twelve.comes(0, 6, 1);
        due("twelve ties go on", tiesOf(twelve), "i1-0 i2-1 i3-2 i4-3 i5-4 i6-5 i7-7 i8-8 i9-9 i10-10 i11-11 i12-12");
        RingedPage y = smallTied();
        int cost = y.more(0, 3, 9);
        y.comes(0, 3, 9);
        due("as more()", y.cost(), cost);
        RingedPage seventy = page(40, 20, 1, 2, 10, 10, times("1", 69));
        due("a 70th", seventy.comes(0, 69, 9), 70);
        due("it is the last", seventy.word(0, 69, 3), 9);
    }

    private static void comesWith70() {
        edge("Promise 34", "-3: it has 70;");
        for (int k : new int[] {0, 69, 70}) {
            refused("ahead of " + k, Checks::full, x -> x.comes(1, k, 5), -3);
        }
        due("another TEXT", full().comes(2, 0, 5), 1);
    }

    private static void comesOfOthers() {
        edge("Promise 34", "NONE: as more().");
        for (int which : NO_TEXTS) {
            refused("TEXT " + which, Checks::busy, x -> x.comes(which, 0, 5), NONE);
        }
        for (int k : new int[] {-1, 3, MIN, MAX}) {
            refused("place " + k, Checks::busy, x -> x.comes(1, k, 5), NONE);
        }
        refused("place 71 of 70", Checks::full, x -> x.comes(1, 71, 5), NONE);
        for (int size : new int[] {0, 10, -1, MIN, MAX}) {
            refused("SIZE " + size, Checks::busy, x -> x.comes(1, 0, size), NONE);
            refused("SIZE " + size + ", with 70", Checks::full, x -> x.comes(1, 0, size), NONE);
        }
    }

    // ---- promise 35

    private static void goes() {
        edge("Promise 35", "WORD k goes (as less()): how many WORDS the TEXT has.");
        RingedPage x = page(40, 20, 1, 2, 10, 10, "", "", "1234");
        due("the first", x.goes(2, 0), 3);
        due("the last", x.goes(2, 2), 2);
        due("they are gone", wordsOf(x, 2), "23");
        due("the second", x.goes(2, 1), 1);
        due("the only one", x.goes(2, 0), 0);
        due("none is left", x.count(7), 0);
        due("it can be undone", x.undo() >= 0, true);
        due("it is there again", wordsOf(x, 2), "2");
        RingedPage y = smallTied();
        int cost = y.less(0, 3);
        due("a word with its tie", y.goes(0, 3), 11);
        due("as less()", y.cost(), cost);
        due("ties behind it go on with their words", tiesOf(y), "i0-0 o2-7");
        y.goes(1, 0);
        due("the tie of it goes", tiesOf(y), "o2-7");
        y.goes(2, 0);
        due("ties of words behind it", tiesOf(y), "o1-7");
        due("69 of 70", full().goes(1, 69), 69);
        RingedPage twelve = twelveTies();
        twelve.goes(1, 11);
        twelve.goes(0, 0);
        due("ten of twelve ties", tiesOf(twelve), "i1-0 i2-1 i3-2 i4-3 i5-4 i6-5 i7-6 i8-7 i9-8 i10-9");
    }

    private static void goesOfNone() {
        edge("Promise 35", "NONE: none such.");
        int[][] none = {{0, 3}, {1, 2}, {2, 1}, {0, -1}, {0, MIN}, {0, MAX}, {-1, 0}, {3, 0}, {MIN, 0}, {MAX, 0}};
        for (int[] c : none) {
            refused("TEXT " + c[0] + ", WORD " + c[1], Checks::busy, x -> x.goes(c[0], c[1]), NONE);
        }
        refused("WORD 70 of 70", Checks::full, x -> x.goes(1, 70), NONE);
        refused("a TEXT without words", RingedPage::new, x -> x.goes(0, 0), NONE);
    }

    // ---- promise 36

    private static void dayThatIsEmpty() {
        edge("Promise 36", "THE TEXT tells A DAY (an empty one: nothing),");
        RingedPage x = typed("");
        due("nothing is done", x, x.day(), 0, 0, 10100);
        RingedPage y = typed("");
        y.day();
        due("nothing changes", allButRowOf(y), allButRowOf(typed("")));
        RingedPage z = new RingedPage();
        due("of a new object", z, z.day(), 0, 0, 0);
    }

    private static void dayWithoutSignsBetween() {
        edge("Promise 36", "ACTS one behind another, without signs between:");
        RingedPage x = typed("w41h06u2xp31111c0001g100b09");
        due("one of each", x.day(), 8);
        for (String between : new String[] {" ", ",", "\u0000", "\n", ".", "0"}) {
            refusedReading("a sign between", () -> typed("w41" + between + "h06"), y -> y.day(), -4);
        }
        refusedReading("a sign behind all", () -> typed("w41 "), y -> y.day(), -4);
        RingedPage longest = typed(times("x", 80));
        due("80 acts", longest, longest.day(), 80, 0, 10100);
    }

    /** The act alone does what the call does, on the busy object. */
    private static void asTheCall(String act, ToIntFunction<RingedPage> call) {
        RingedPage x = typed(act);
        RingedPage y = typed("");
        boolean isDone = call.applyAsInt(y) >= 0;
        due(act + ": done", x.day(), isDone ? 1 : 0);
        due(act + ": one could not be", x.row(0), isDone ? 0L : 1L);
        due(act + ": COST then", x.row(1), (long) y.cost());
        due(act + ": as the call", allButRowOf(x), allButRowOf(y));
    }

    private static void dayWidth() {
        edge("Promise 36", "w, two digits (sets() of W),");
        for (int w : new int[] {0, 9, 10, 28, 29, 30, 31, 39, 40, 41, 60, 61, 99}) {
            asTheCall("w" + w / 10 + w % 10, x -> x.sets(0, w));
        }
    }

    private static void dayHeight() {
        edge("Promise 36", "h, two digits (of H),");
        for (int h : new int[] {0, 2, 3, 4, 5, 30, 40, 41, 99}) {
            asTheCall("h" + h / 10 + h % 10, x -> x.sets(1, h));
        }
    }

    private static void dayGutter() {
        edge("Promise 36", "u, a digit (of GUTTER),");
        for (int gutter = 0; gutter < 10; gutter++) {
            int g = gutter;
            asTheCall("u" + g, x -> x.sets(2, g));
        }
    }

    private static void daySwaps() {
        edge("Promise 36", "x (swaps()),");
        asTheCall("x", x -> x.swaps());
        RingedPage none = new RingedPage();
        due("neither has any", none, day(none, "x"), 0, 1, 0);
        RingedPage inner = page(40, 20, 1, 2, 10, 10, "", "9");
        due("INNER has none then, and it goes on", inner, day(inner, "xxx"), 3, 0, 0);
    }

    private static void dayPlans() {
        edge("Promise 36", "p, a digit, two digits, two digits (plans()),");
        int[][] cases = {{0, 9, 9}, {4, 10, 10}, {5, 10, 10}, {9, 10, 10}, {2, 20, 9}, {2, 9, 20}, {2, 20, 10}, {2, 8, 10}, {2, 10, 8},
            {2, 10, 10}, {0, 0, 0}, {9, 99, 99}, {2, 12, 13}};
        for (int[] c : cases) {
            String act = "p" + c[0] + c[1] / 10 + c[1] % 10 + c[2] / 10 + c[2] % 10;
            asTheCall(act, x -> x.plans(c[0], c[1], c[2]));
        }
    }

    private static void dayComes() {
        edge("Promise 36", "c, a digit (TEXT), two digits (k), a digit (SIZE) (comes()),");
        int[][] cases = {{0, 0, 1}, {0, 3, 9}, {0, 4, 9}, {1, 2, 5}, {1, 3, 5}, {2, 0, 7}, {2, 1, 7}, {2, 2, 7}, {3, 0, 5}, {9, 0, 5}, {0, 0, 0},
            {0, 99, 5}, {1, 10, 5}};
        for (int[] c : cases) {
            asTheCall("c" + c[0] + c[1] / 10 + c[1] % 10 + c[2], x -> x.comes(c[0], c[1], c[2]));
        }
        RingedPage full = full();
        due("it has 70", day(full, "c1705"), 0);
        due("70 stay", full.count(6), 70);
        RingedPage one = page(40, 20, 1, 2, 10, 10, times("1", 69));
        due("a 70th, and a 71st that can't be", day(one, "c0699c0709"), 1);
        due("the 70th is there", one.word(0, 69, 3), 9);
    }

    private static void dayGoes() {
        edge("Promise 36", "g, a digit, two digits (goes()),");
        int[][] cases = {{0, 0}, {0, 2}, {0, 3}, {1, 0}, {1, 1}, {1, 2}, {2, 0}, {2, 1}, {3, 0}, {9, 99}, {1, 10}};
        for (int[] c : cases) {
            asTheCall("g" + c[0] + c[1] / 10 + c[1] % 10, x -> x.goes(c[0], c[1]));
        }
        RingedPage full = full();
        due("the 70th goes", day(full, "g169"), 1);
        due("69 are left", full.count(6), 69);
    }

    private static void dayBest() {
        edge("Promise 36", "b, a digit, a digit (takesBest()):");
        for (int most : new int[] {0, 1, 4, 9}) {
            for (int step : new int[] {0, 1, 5, 9}) {
                asTheCall("b" + most + step, x -> x.takesBest(most, step));
            }
        }
        // INNER's last word stands beside MAIN by a crown of 9; a lesser one is the better, the greater it is
        for (int most : new int[] {0, 5, 8, 9}) {
            RingedPage tower = page(40, 20, 1, 2, 10, 10, "9", times("9", 37));
            due("to a crown of " + most, day(tower, "b" + most + "9"), 1);
            due("the crown is " + most, planOf(tower), most + " 9 9");
        }
        RingedPage wide = page(60, 20, 1, 2, 10, 10, "9", "", "99");
        due("by steps of 4", day(wide, "b04"), 1);
        due("OUTER has 21", planOf(wide), "0 9 21");
        RingedPage x = typed("b01b01");
        due("a second time it is that", x.day(), 1);
        due("so it stops", x.row(0), 1L);
    }

    private static void dayTillOneCannotBe() {
        edge("Promise 36", "they are done one by one, till one can't be (it answers below 0): how many were done;");
        RingedPage all = typed("w41w42w43");
        due("all three", all.day(), 3);
        due("by the last of them", all.count(0), 43);
        RingedPage second = typed("w41w41h09");
        due("the second can't be", second.day(), 1);
        due("the first is done", second.count(0), 41);
        due("the third is not", second.count(1), 5);
        RingedPage first = typed("w40h09");
        due("the first can't be", first.day(), 0);
        due("nothing is done", first.count(1), 5);
        RingedPage last = typed("w41h09u1");
        due("the last can't be", last.day(), 2);
        // each act finds what those ahead of it have left: GUTTER 4 needs the narrower shares, a crown of 6 the higher page
        RingedPage one = typed("p20909w35u4h07p60909");
        due("one by one", one.day(), 5);
        due("each ahead of the next", stateOf(one).startsWith("35 7 6 9 9 4 "), true);
        RingedPage other = typed("u4w35p20909");
        due("in another order", other.day(), 1);
    }

    private static void dayTells() {
        edge("Promise 36", "the ROW: 1 if one could not be, else 0, COST then.");
        RingedPage done = typed("g100");
        due("all done", done, done.day(), 1, 0, 10000);
        RingedPage stopped = typed("g100w40");
        due("one could not be", stopped, stopped.day(), 1, 1, 10000);
        RingedPage none = typed("w40");
        due("none could be", none, none.day(), 0, 1, 10100);
        RingedPage planned = small();
        due("set anew", planned, day(planned, "p01010"), 1, 0, 10008);
    }

    private static void daySigns() {
        edge("Promise 36", "-1 - p: the sign at p can't stand there");
        for (String sign : new String[] {"z", "W", "X", "0", "9", " ", "\u0000", "\u00ff", "i", "o", "a", "\u00f7"}) {
            refusedReading("no act", () -> typed(sign), x -> x.day(), -1);
            refusedReading("no act behind one", () -> typed("x" + sign), x -> x.day(), -2);
            refusedReading("no act behind one with digits", () -> typed("p20909" + sign), x -> x.day(), -7);
        }
        String[] acts = {"w41", "h06", "u2", "p20909", "c0005", "g000", "b09"};
        for (String act : acts) {
            for (int p = 1; p < act.length(); p++) {
                for (String sign : new String[] {"x", "/", ":", "\u0000", "\u00b5"}) {
                    String spoiled = act.substring(0, p) + sign + act.substring(p + 1);
                    refusedReading(spoiled, () -> typed(spoiled), x -> x.day(), -1 - p);
                    refusedReading("x and " + spoiled, () -> typed("x" + spoiled), x -> x.day(), -2 - p);
                }
            }
        }
    }

    private static void dayNumbersThatCannotBe() {
        edge("Promise 36", "(numbers that can't be are read, and refused when done;");
        for (String act : new String[] {"w00", "w28", "w61", "w99", "h00", "h02", "h41", "h99", "u0", "u5", "u9", "p00000", "p99999", "c3000",
            "c0990", "c0000", "c9999", "g300", "g003", "g999", "b00", "b90"}) {
            RingedPage x = typed(act);
            due(act, x, x.day(), 0, 1, 10100);
            RingedPage y = typed("w41" + act + "h09");
            due("behind one that can be, " + act, y.day(), 1);
            due("which was done, " + act, y.count(0), 41);
            due("nothing behind it, " + act, y.count(1), 5);
        }
    }

    private static void dayEndsTooEarly() {
        edge("Promise 36", "its end, if it ends too early);");
        for (String act : new String[] {"w41", "h06", "u2", "p20909", "c0005", "g000", "b09"}) {
            for (int n = 1; n < act.length(); n++) {
                String early = act.substring(0, n);
                refusedReading(early, () -> typed(early), x -> x.day(), -1 - n);
                refusedReading("w41 and " + early, () -> typed("w41" + early), x -> x.day(), -4 - n);
            }
        }
        refusedReading("at its 80th sign", () -> typed(times("x", 79) + "u"), x -> x.day(), -81);
        refusedReading("at its 80th sign, a digit", () -> typed(times("x", 78) + "w4"), x -> x.day(), -81);
    }

    private static void dayNothingDone() {
        edge("Promise 36", "nothing is done then.");
        refusedReading("acts ahead of a wrong sign", () -> typed("w41h06xz"), x -> x.day(), -8);
        refusedReading("acts ahead of an early end", () -> typed("w41h06xw"), x -> x.day(), -9);
        refusedReading("an act that can't be, ahead of a wrong sign", () -> typed("w40z"), x -> x.day(), -4);
        due("THE TEXT is empty behind a day that is done, too", emptied(), 0);
    }

    private static int emptied() {
        RingedPage x = typed("w41");
        x.day();
        return x.count(11);
    }

    // ---- promise 37

    private static void undoOfEachKind() {
        edge("Promise 37", "The latest words(), ties(), sets(), weighs(), swaps(), plans(), takesBest(), comes(), goes(), day()");
        for (int kind = 0; kind < KINDS.length; kind++) {
            RingedPage x = smallTied();
            String was = stateOf(x);
            due(KINDS[kind] + " is done", change(x, kind) >= 0, true);
            due(KINDS[kind] + " changes something", stateOf(x).equals(was), false);
            due(KINDS[kind] + " can be undone", x.count(9), 7);
            due(KINDS[kind] + " is undone", x.undo(), 6);
            due(KINDS[kind] + ": as ahead of it", stateOf(x), was);
        }
        RingedPage x = new RingedPage();
        due("the same words again", words(x, 0, ""), 0);
        due("were done", x.count(9), 1);
        due("no ties again", ties(x, ""), 0);
        due("were done, too", x.count(9), 2);
    }

    private static void undoOfSeven() {
        edge("Promise 37", "(of 7 that are kept, the latest ones;");
        RingedPage x = new RingedPage();
        for (int i = 1; i <= 20; i++) {
            x.weighs(2, 50 + i);
            due(i + " done", x.count(9), Math.min(i, 7));
        }
        for (int i = 1; i <= 7; i++) {
            due("the latest first, " + i, x.undo(), 7 - i);
            due("as ahead of it, " + i, x.count(15), 70 - i);
        }
        due("no eighth", x.undo(), NONE);
        due("it stays", x.count(15), 63);
        for (int i = 1; i <= 3; i++) {
            x.weighs(2, i);
        }
        due("three again", x.undo(), 2);
        x.weighs(2, 90);
        due("one in its place", x.undo(), 2);
        due("as ahead of that", x.count(15), 2);
    }

    private static void undoOfSuchAsWereDone() {
        edge("Promise 37", "such as were done;");
        RingedPage x = smallTied();
        int undone = x.count(9);
        words(x, 0, "0");
        words(x, 3, "1");
        ties(x, "i9900");
        x.sets(0, 40);
        x.sets(0, 61);
        x.weighs(0, 10000);
        x.weighs(3, 1);
        x.plans(1, 10, 10);
        x.plans(9, 10, 10);
        x.takesBest(10, 1);
        x.comes(0, 13, 1);
        x.goes(0, 12);
        day(x, "z");
        day(x, "w40");
        day(x, "");
        x.keep(2);
        x.again(0);
        due("refused ones are not kept", x.count(9), undone);
        due("sheets are not", x.sheet(0, 0, 2, 1, 1, 0) + x.count(9), 1 + undone);
        due("nor what is kept", x.keep(0) ? x.count(9) : -1, undone);
        RingedPage y = new RingedPage();
        y.swaps();
        due("neither a refused swap", y.undo(), NONE);
    }

    private static void undoOfADay() {
        edge("Promise 37", "day() of which one ACT was done, as one)");
        RingedPage x = smallTied();
        String was = stateOf(x);
        due("of three", day(x, "w41h04x"), 3);
        due("one", x.count(9), 7);
        due("undone as one", x.undo(), 6);
        due("all three", stateOf(x), was);
        due("one, then it stops", day(x, "w41w41x"), 1);
        due("it counts", x.count(9), 7);
        due("it is undone", x.undo(), 6);
        due("as it was", stateOf(x), was);
        due("none", day(x, "w40w41x"), 0);
        due("it does not count", x.count(9), 6);
    }

    private static void undoOfAllThatTermsTell() {
        edge("Promise 37", "is undone (all that 1. tells of is as ahead of it):");
        RingedPage x = smallTied();
        String was = stateOf(x);
        words(x, 0, "123");
        due("its ties went", x.count(8), 0);
        x.undo();
        due("words and ties are there again", stateOf(x), was);
        x.weighs(0, 1);
        x.sheet(0, 0, 2, 12, 1, 0);
        x.undo();
        due("sizes, too, by which a sheet came behind", stateOf(x), was);
        x.cost();
        List<Long> row = rowOf(x);
        x.weighs(0, 2);
        write(x, "12");
        x.undo();
        due("the ROW stays", rowOf(x), row);
        due("THE TEXT stays", x.count(11), 2);
        x.keep(0);
        x.weighs(0, 3);
        x.keep(1);
        x.undo();
        due("what is kept stays", x.again(1) ? x.count(13) : -1, 3);
    }

    private static void undoLeft() {
        edge("Promise 37", "how many are left that can be.");
        RingedPage x = smallTied();
        List<String> states = new ArrayList<>();
        for (int kind = 11; kind >= 5; kind--) {
            states.add(stateOf(x));
            due(KINDS[kind] + " is done", change(x, kind) >= 0, true);
        }
        for (int i = 6; i >= 0; i--) {
            due("left", x.undo(), i);
            due("count() tells as many", x.count(9), i);
            due("as it was ahead of the change", stateOf(x), states.get(i));
        }
    }

    private static void undoOfNone() {
        edge("Promise 37", "Refused: none.");
        due("of a new one", new RingedPage().undo(), NONE);
        RingedPage x = new RingedPage();
        x.weighs(0, 1);
        due("the only one", x.undo(), 0);
        due("no more", x.undo(), NONE);
        due("as at first", x.count(13), 10000);
        refused("all stays", Checks::withoutPast, y -> y.undo(), NONE);
    }

    private static void undoAndAgain() {
        edge("Promise 37", "(again() forgets them, if it is not refused.)");
        RingedPage x = busy();
        due("a refused one", x.again(1), false);
        due("forgets nothing", x.count(9), 6);
        due("one that is none", x.again(-1) || x.again(2), false);
        due("forgets nothing, either", x.count(9), 6);
        due("one that is done", x.again(0), true);
        due("forgets all", x.count(9), 0);
        due("none can be undone", x.undo(), NONE);
        x.weighs(0, 7);
        due("later ones can", x.undo(), 0);
    }

    // ---- promise 38

    private static void asDrawn(String what, RingedPage x, RingedPage y, int seed, int n) {
        draw(y, seed, n);
        int pages = y.pages();
        due(what + ", seed " + seed + ", n " + n, x, x.years(seed, n), pages, y.cost(), y.count(5), y.count(6), y.count(7));
    }

    private static void yearsTimes() {
        edge("Promise 38", "n times (1 .. 30;");
        for (int n : new int[] {1, 2, 29, 30}) {
            asDrawn("small", smallTied(), smallTied(), 4711, n);
            asDrawn("new", new RingedPage(), new RingedPage(), 4711, n);
        }
        RingedPage x = new RingedPage();
        x.years(4711, 30);
        due("30 words in all", x.row(1) + x.row(2) + x.row(3), 30L);
        x.years(4711, 1);
        due("one word in all", x.row(1) + x.row(2) + x.row(3), 1L);
    }

    private static void yearsForgotten() {
        edge("Promise 38", "it is forgotten):");
        for (int n : new int[] {1, 30}) {
            question("n " + n, Checks::busy, x -> x.years(5, n));
        }
        RingedPage x = smallTied();
        x.years(9, 30);
        List<Long> first = rowOf(x);
        x.years(9, 30);
        due("the same again", rowOf(x), first);
    }

    private static void yearsTextAndSize() {
        edge("Promise 38", "a DRAW of 3 (a TEXT), a DRAW of 9: a WORD of 1 more comes");
        // seed 0: 12345, so 0 of 3: MAIN; then 3554416254, 54236 % 9 = 2: a word of 3
        RingedPage fits = page(40, 20, 1, 2, 10, 10, "9996");
        due("a word of 3 fills the line", fits, fits.years(0, 1), 1, 0, 5, 0, 0);
        RingedPage not = page(40, 20, 1, 2, 10, 10, "9997");
        due("it is no less than 3", not, not.years(0, 1), 1, 9, 5, 0, 0);
        // seed 1: 1103527590, 16838 % 3 = 2: OUTER; then 2524885223, 38526 % 9 = 6: a word of 7
        RingedPage outer = page(40, 20, 1, 2, 10, 10, "", "", "9992");
        due("a word of 7 fills the line", outer, outer.years(1, 1), 1, 0, 0, 0, 5);
        RingedPage full = page(40, 20, 1, 2, 10, 10, "", "", "9993");
        due("it is no less than 7", full, full.years(1, 1), 1, 49, 0, 0, 5);
        boolean[] seen = new boolean[3];
        for (int seed = 0; seed < 9; seed++) {
            RingedPage x = new RingedPage();
            x.years(seed, 1);
            for (int t = 0; t < 3; t++) {
                seen[t] |= x.row(1 + t) == 1;
            }
        }
        due("each TEXT is drawn", seen[0] && seen[1] && seen[2], true);
    }

    private static void yearsBehindAll() {
        edge("Promise 38", "behind all of it");
        // 9 9 9 9 leave 1 of 40, and the word of 3 is in the next line with 1 1; ahead of all it would be 3 9 9 9 that leave 7
        RingedPage x = page(40, 20, 1, 2, 10, 10, "999911");
        due("behind the last", x, x.years(0, 1), 1, 1, 7, 0, 0);
        RingedPage ahead = page(40, 20, 1, 2, 10, 10, "3999911");
        due("ahead of all", ahead.cost(), 49);
        asDrawn("with ties", smallTied(), smallTied(), 99, 30);
    }

    private static void yearsWith70() {
        edge("Promise 38", "(if it has 70: nothing):");
        String ones = times("1", 70);
        RingedPage all = page(40, 20, 1, 2, 10, 10, ones, ones, ones);
        int cost = all.cost();
        int pages = all.pages();
        due("all have 70", all, all.years(7, 30), pages, cost, 70, 70, 70);
        for (int t = 0; t < 3; t++) {
            String[] texts = {"9", "9", "9"};
            texts[t] = times("1", 69);
            asDrawn("69 of TEXT " + t, page(40, 20, 1, 2, 10, 10, texts), page(40, 20, 1, 2, 10, 10, texts), 12, 30);
            RingedPage x = page(40, 20, 1, 2, 10, 10, texts);
            x.years(12, 30);
            due("70 of it then, TEXT " + t, x.row(1 + t), 70L);
        }
    }

    private static void yearsTold() {
        edge("Promise 38", "PAGES then; the ROW: COST then, WORDS of TEXTS 0, 1, 2.");
        for (int seed = 100; seed < 110; seed++) {
            asDrawn("small", smallTied(), smallTied(), seed, 30);
        }
        RingedPage x = new RingedPage();
        due("the first page", x.years(3, 1), 1);
        due("four numbers", x.count(10), 4);
    }

    private static void yearsOfOthers() {
        edge("Promise 38", "NONE: another n.");
        for (int n : new int[] {0, 31, -1, MIN, MAX}) {
            refused("n " + n, Checks::busy, x -> x.years(1, n), NONE);
        }
    }

    private static void yearsDraws() {
        edge("Promise 38", "A DRAW of n: R = R times 1103515245 + 12345 (as ints; R is seed at first), (R without sign, by 65536) % n.");
        for (int seed : new int[] {0, 1, -1, 2, -2, MIN, MIN + 1, MAX, MAX - 1, 65535, 65536, -65536, 123456789, -123456789}) {
            asDrawn("few", busy(), busy(), seed, 1);
            asDrawn("many", smallTied(), smallTied(), seed, 30);
        }
    }
}
