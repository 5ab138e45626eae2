import java.util.List;

/** The edges that promises 39 to 42 name: what is kept, counts, the ROW. */
public final class EdgeKeptTest extends Checks {
    public static void main(String[] args) {
        keep();
        keepRefused();
        again();
        againRefused();
        count();
        countOfAnother();
        row();
        rowThrown();
        finishParts("Promise 39", "Promise 40", "Promise 41", "Promise 42");
    }

    // ---- promise 39

    /** Everything that terms 1 tell of becomes another. */
    private static void changeAll(RingedPage x) {
        words(x, 0, "11111");
        words(x, 1, "222");
        words(x, 2, "3333");
        ties(x, "o0301");
        x.sets(0, 50);
        x.sets(1, 9);
        x.sets(2, 3);
        x.plans(8, 12, 13);
        x.weighs(0, 1);
        x.weighs(1, 2);
        x.weighs(2, 4);
    }

    private static void keep() {
        edge("Promise 39", "All that 1. tells of is kept under a number 0 .. 1: true.");
        for (int i = 0; i < 2; i++) {
            RingedPage x = smallTied();
            String first = stateOf(x);
            due("under " + i, x.keep(i), true);
            changeAll(x);
            String second = stateOf(x);
            due("under the other", x.keep(1 - i), true);
            due("the first", x.again(i) ? stateOf(x) : "", first);
            due("the second", x.again(1 - i) ? stateOf(x) : "", second);
            due("in place of the first", x.keep(i), true);
            x.weighs(0, 5);
            due("the second under both", x.again(i) ? stateOf(x) : "", second);
        }
        RingedPage none = new RingedPage();
        due("a new one", none.keep(0), true);
        changeAll(none);
        due("as at first", none.again(0) ? stateOf(none) : "", stateOf(new RingedPage()));
        RingedPage x = busy();
        x.keep(1);
        due("what can be undone stays", x.count(9), 6);
        due("THE TEXT stays", x.count(11), 2);
        due("the ROW stays", rowOf(x), asList(1, 1, 0));
        x.sheet(0, 0, 2, 3, 1, 1);
        x.again(1);
        due("sizes are kept, too", wordsOf(x, 0), "555");
    }

    private static void keepRefused() {
        edge("Promise 39", "Refused: others.");
        for (int i : new int[] {-1, 2, MIN, MAX}) {
            refused("under " + i, Checks::busy, x -> x.keep(i) ? 1 : 0, 0);
        }
    }

    // ---- promise 40

    private static void again() {
        edge("Promise 40", "It is as it was kept under a number.");
        RingedPage x = busy();
        x.keep(1);
        String was = stateOf(x);
        changeAll(x);
        x.cost();
        List<Long> row = rowOf(x);
        write(x, "12");
        due("done", x.again(1), true);
        due("the ROW stays", rowOf(x), row);
        due("THE TEXT stays", x.count(11), 2);
        due("as it was", stateOf(x), was);
        due("nothing can be undone", x.undo(), NONE);
        due("a second time", x.again(1), true);
        due("the same", stateOf(x), was);
        x.weighs(0, 77);
        due("what is kept does not change with it", x.again(1) ? stateOf(x) : "", was);
    }

    private static void againRefused() {
        edge("Promise 40", "Refused: nothing kept.");
        refused("under 1", Checks::busy, x -> x.again(1) ? 1 : 0, 0);
        for (int i : new int[] {-1, 2, MIN, MAX}) {
            refused("under " + i, Checks::busy, x -> x.again(i) ? 1 : 0, 0);
        }
        RingedPage x = new RingedPage();
        due("at first", x.again(0) || x.again(1), false);
        x.keep(2);
        due("behind a refused one", x.again(0) || x.again(1), false);
        x.keep(1);
        due("under the other alone", x.again(0), false);
        due("under this", x.again(1), true);
    }

    // ---- promise 41

    private static void count() {
        edge("Promise 41", "What 0: W, 1: H, 2: CROWN, 3, 4: SHARES of INNER, of OUTER, 5, 6, 7: WORDS of TEXTS 0, 1, 2, 8: TIES, "
            + "9: what can be undone, 10: numbers of the ROW, 11: signs of THE TEXT, 12: GUTTER, 13, 14, 15: WEIGHTS.");
        counts("a new one", new RingedPage(), 40, 20, 2, 10, 10, 0, 0, 0, 0, 0, 0, 0, 1, 10000, 100, 1);
        RingedPage x = new RingedPage();
        changeAll(x);
        x.cost();
        write(x, "123456");
        counts("all another", x, 50, 9, 8, 12, 13, 5, 3, 4, 1, 7, 3, 6, 3, 1, 2, 4);
        RingedPage least = page(29, 3, 1, 0, 9, 9);
        for (int what = 0; what < 3; what++) {
            least.weighs(what, 0);
        }
        counts("the least", least, 29, 3, 0, 9, 9, 0, 0, 0, 0, 6, 0, 0, 1, 0, 0, 0);
        String ones = times("1", 70);
        RingedPage most = page(60, 40, 4, 9, 34, 9, ones, ones, ones);
        most.weighs(1, 10000);
        most.weighs(2, 100);
        ties(most, "i0000i0100i0200i0300i0400i0500i0600i0700i0800i0900i1000i1100");
        write(most, times("1", 80));
        most.line(0, 0);
        counts("the most", most, 60, 40, 9, 34, 9, 70, 70, 70, 12, 7, 60, 80, 4, 10000, 10000, 100);
    }

    private static void counts(String of, RingedPage x, int... want) {
        for (int what = 0; what < 16; what++) {
            due(of + ", what " + what, x.count(what), want[what]);
        }
    }

    private static void countOfAnother() {
        edge("Promise 41", "NONE for another what.");
        for (int what : new int[] {-1, 16, MIN, MAX}) {
            refused("what " + what, Checks::busy, x -> x.count(what), NONE);
        }
    }

    // ---- promise 42

    private static void row() {
        edge("Promise 42", "Number i of the ROW.");
        RingedPage x = smallTied();
        x.cost();
        due("the first", x.row(0), 2L);
        due("the last", x.row(2), 3L);
        x.pages();
        due("the only one", x.row(0), 1L);
        x.sets(0, 60);
        x.line(0, 0);
        due("the first of 60", x.row(0), 2L);
        due("the last of 60", rowThrows(x, 59), false);
        RingedPage none = new RingedPage();
        none.apart();
        due("one below 0", none.row(0), -1L);
    }

    private static void rowThrown() {
        edge("Promise 42", "NoSuchElementException: none such.");
        for (int i : new int[] {-1, 3, MIN, MAX}) {
            refused("number " + i, Checks::busy, x -> rowThrows(x, i) ? 1 : 0, 1);
        }
        due("at first", rowThrows(new RingedPage(), 0), true);
        RingedPage x = page(60, 20, 1, 0, 9, 9, "", times("9", 13), "9");
        x.line(0, 0);
        due("number 60 of 60", rowThrows(x, 60), true);
        x.pages();
        due("behind a shorter one", rowThrows(x, 1), true);
        x.near(0, 9, 0);
        due("behind an empty one", rowThrows(x, 0), true);
    }
}
