import java.util.ArrayList;
import java.util.List;
import java.util.NoSuchElementException;
import java.util.Random;

/**
 * Drawn runs of calls on the class and on a second, slower reading of the document, which draws each page
 * letter by letter and looks its answers up there; each answer, the ROW and all counts must be the same.
 */
public final class ModelTest {
    private static final int THROWN = 77777777;
    private static final int RUNS = 1500;
    private static final int CALLS = 150;
    private static final int KINDS = 42;
    private static int wrong = 0;
    private static final StringBuilder told = new StringBuilder();

    public static void main(String[] args) {
        long calls = 0;
        for (int run = 0; run < RUNS && wrong == 0; run++) {
            calls += run(run);
        }
        System.out.println(calls + " drawn calls, " + wrong + " wrong");
        if (wrong != 0) {
            System.out.println(told);
            System.exit(1);
        }
    }

    private static int run(int seed) {
        Random random = new Random(seed);
        RingedPage page = new RingedPage();
        Model model = new Model();
        told.setLength(0);
        boolean large = seed % 3 == 0;
        fill(random, page, model, large);
        for (int i = 0; i < CALLS && wrong == 0; i++) {
            call(random, page, model, large);
            compare("behind it", page, model);
        }
        return CALLS;
    }

    private static void fill(Random random, RingedPage page, Model model, boolean large) {
        for (int t = 0; t < 3; t++) {
            if (random.nextInt(5) == 0) {
                continue;
            }
            int n = random.nextInt(large ? 71 : 20);
            StringBuilder b = new StringBuilder();
            int most = 1 + random.nextInt(9);
            for (int k = 0; k < n; k++) {
                b.append((char) ('1' + random.nextInt(most)));
            }
            type(page, model, b.toString());
            due("words " + t + " " + b, page.words(t), model.words(t));
        }
        type(page, model, drawnTies(random, model));
        due("ties", page.ties(), model.ties());
    }

    private static void type(RingedPage page, Model model, String signs) {
        for (int p = 0; p < signs.length(); p += 4) {
            int v = 0;
            for (int i = 0; i < 4; i++) {
                v = v << 8 | (p + i < signs.length() ? signs.charAt(p + i) & 255 : 7);
            }
            due("sign " + v, page.sign(v), model.sign(v));
        }
        due("end of " + signs, page.end(signs.length()) ? 1 : 0, model.end(signs.length()) ? 1 : 0);
    }

    private static String two(int n) {
        return "" + n / 10 % 10 + n % 10;
    }

    private static String drawnTies(Random random, Model model) {
        StringBuilder b = new StringBuilder();
        int n = random.nextInt(14);
        for (int i = 0; i < n; i++) {
            int t = 1 + random.nextInt(2);
            int words = model.leaf.text[t].size();
            int mains = model.leaf.text[0].size();
            b.append(t == 1 ? 'i' : 'o');
            b.append(two(random.nextInt(30) == 0 ? words : random.nextInt(Math.max(1, words))));
            b.append(two(random.nextInt(30) == 0 ? mains : random.nextInt(Math.max(1, mains))));
        }
        return spoiled(random, b, 80);
    }

    private static String spoiled(Random random, StringBuilder b, int most) {
        if (b.length() > 0 && random.nextInt(12) == 0) {
            b.setCharAt(random.nextInt(b.length()), "ioxw 0a9:/".charAt(random.nextInt(10)));
        }
        if (b.length() > 0 && random.nextInt(12) == 0) {
            b.setLength(random.nextInt(b.length()));
        }
        if (b.length() > most) {
            b.setLength(most);
        }
        return b.toString();
    }

    private static String drawnDay(Random random, Model model) {
        StringBuilder b = new StringBuilder();
        int n = random.nextInt(8);
        for (int i = 0; i < n; i++) {
            int t = random.nextInt(20) == 0 ? 3 : random.nextInt(3);
            int words = t < 3 ? model.leaf.text[t].size() : 0;
            switch (random.nextInt(8)) {
                case 0: b.append('w').append(two(28 + random.nextInt(34))); break;
                case 1: b.append('h').append(two(2 + random.nextInt(40))); break;
                case 2: b.append('u').append(random.nextInt(6)); break;
                case 3: b.append('x'); break;
                case 4: b.append('p').append(random.nextInt(10)).append(two(8 + random.nextInt(12)))
                        .append(two(8 + random.nextInt(12))); break;
                case 5: b.append('c').append(t).append(two(random.nextInt(words + 2))).append(random.nextInt(10)); break;
                case 6: b.append('g').append(t).append(two(random.nextInt(words + 1))); break;
                default: b.append('b').append(random.nextInt(4)).append(random.nextInt(20) == 0 ? 0 : 3 + random.nextInt(7));
            }
        }
        return spoiled(random, b, 80);
    }

    /** Mostly from low to high, at times one beside or far away. */
    private static int near(Random random, int low, int high) {
        int draw = random.nextInt(40);
        if (draw == 0) {
            return low - 1;
        }
        if (draw == 1) {
            return high + 1;
        }
        if (draw == 2) {
            return random.nextInt();
        }
        return low + random.nextInt(Math.max(1, high - low + 1));
    }

    private static void call(Random random, RingedPage page, Model model, boolean large) {
        int kind = random.nextInt(KINDS);
        int pages = Math.max(1, model.pageCount());
        int t = near(random, 0, 2);
        int words = t >= 0 && t < 3 ? model.leaf.text[t].size() : 3;
        int most = near(random, 0, large ? 2 : 9);
        int step = near(random, large ? 4 : 2, 9);
        int a = near(random, 0, pages - 1);
        int b = near(random, 0, model.leaf.height - 1);
        switch (kind) {
            case 0: {
                int v = random.nextInt(3) == 0 ? random.nextInt() : 0x31323334;
                due("sign " + v, page.sign(v), model.sign(v));
                break;
            }
            case 1: {
                int n = near(random, 0, model.signs.size());
                due("end " + n, page.end(n) ? 1 : 0, model.end(n) ? 1 : 0);
                break;
            }
            case 2: {
                if (random.nextInt(4) == 0) {
                    type(page, model, spoiled(random, new StringBuilder("9182736455463728191".substring(random.nextInt(19))), 80));
                }
                due("words " + t, page.words(t), model.words(t));
                break;
            }
            case 3: {
                page.end(0);
                model.end(0);
                String s = drawnTies(random, model);
                type(page, model, s);
                due("ties " + s, page.ties(), model.ties());
                break;
            }
            case 4: {
                int k = near(random, 0, words);
                int n = near(random, 0, Math.min(70, words));
                int f = random.nextInt(3) == 0 ? 256 * random.nextInt(300) + random.nextInt(10) : random.nextInt(11);
                int s = random.nextInt(3) - 1 + (random.nextInt(5) == 0 ? 65536 : 0);
                int sort = near(random, 0, 3);
                due("sheet " + t + " " + k + " " + sort + " " + n + " " + f + " " + s,
                    page.sheet(t, k, sort, n, f, s), model.sheet(t, k, sort, n, f, s));
                break;
            }
            case 5: due("pages", page.pages(), model.pages()); break;
            case 6: due("part " + a + " " + b + " " + t, page.part(a, b, t), model.part(a, b, t)); break;
            case 7: {
                int k = near(random, 0, words - 1);
                int what = near(random, 0, 4);
                due("word " + t + " " + k + " " + what, word(page, t, k, what), model.word(t, k, what));
                break;
            }
            case 8: {
                int c = near(random, 0, model.leaf.width - 1);
                due("at " + a + " " + b + " " + c, page.at(a, b, c), model.at(a, b, c));
                break;
            }
            case 9: due("ends " + t, page.ends(t), model.ends(t)); break;
            case 10: due("apart", page.apart(), model.apart()); break;
            case 11: due("ragged", page.ragged(), model.ragged()); break;
            case 12: due("cost", page.cost(), model.cost()); break;
            case 13: due("line " + a + " " + b, page.line(a, b), model.line(a, b)); break;
            case 14: due("blank", page.blank(), model.blank()); break;
            case 15: {
                int i = near(random, 0, model.leaf.ties.size() - 1);
                due("tie " + i, tie(page, i), model.tie(i));
                break;
            }
            case 16: due("broken", page.broken(), model.broken()); break;
            case 17: due("loose", page.loose(), model.loose()); break;
            case 18:
            case 19: {
                int crown = near(random, 0, Math.min(9, model.leaf.height - 1));
                int inner = near(random, 9, 9 + random.nextInt(32));
                int outer = near(random, 9, Math.max(9, model.leaf.width - 9 - 2 * model.leaf.gutter - inner));
                if (kind == 18) {
                    due("by " + crown + " " + inner + " " + outer, page.by(crown, inner, outer), model.by(crown, inner, outer));
                } else {
                    due("plans " + crown + " " + inner + " " + outer,
                        page.plans(crown, inner, outer), model.plans(crown, inner, outer));
                }
                break;
            }
            case 20: due("best " + most + " " + step, page.best(most, step), model.best(most, step)); break;
            case 21: {
                int n = near(random, 0, random.nextInt(4) == 0 ? 99 : 8);
                due("near " + most + " " + step + " " + n, page.near(most, step, n), model.near(most, step, n));
                break;
            }
            case 22: due("climbs", page.climbs(), model.climbs()); break;
            case 23: {
                int n = near(random, 1, 9);
                due("narrow " + n, page.narrow(n), model.narrow(n));
                break;
            }
            case 24: {
                int n = near(random, 1, 9);
                due("low " + n, page.low(n), model.low(n));
                break;
            }
            case 25:
            case 26: {
                int k = near(random, 0, words);
                int size = near(random, 1, 9);
                if (kind == 25) {
                    due("more " + t + " " + k + " " + size, page.more(t, k, size), model.more(t, k, size));
                } else {
                    due("comes " + t + " " + k + " " + size, page.comes(t, k, size), model.comes(t, k, size));
                }
                break;
            }
            case 27: {
                int k = near(random, 0, words - 1);
                due("less " + t + " " + k, page.less(t, k), model.less(t, k));
                break;
            }
            case 28: {
                int k = near(random, 0, words - 1);
                due("goes " + t + " " + k, page.goes(t, k), model.goes(t, k));
                break;
            }
            case 29: {
                int what = near(random, 1, 2);
                due("spare " + what, page.spare(what), model.spare(what));
                break;
            }
            case 30:
            case 31: {
                int what = near(random, 0, 2);
                int v = what == 0 ? near(random, 29, 60) : what == 1 ? near(random, 3, random.nextBoolean() ? 9 : 40)
                    : near(random, 1, 4);
                due("sets " + what + " " + v, page.sets(what, v), model.sets(what, v));
                break;
            }
            case 32: {
                int what = near(random, 0, 2);
                int v = random.nextInt(3) == 0 ? random.nextInt(3) : near(random, 0, what == 2 ? 100 : 10000);
                due("weighs " + what + " " + v, page.weighs(what, v), model.weighs(what, v));
                break;
            }
            case 33: due("swaps", page.swaps(), model.swaps()); break;
            case 34: due("takesBest " + most + " " + step, page.takesBest(most, step), model.takesBest(most, step)); break;
            case 35: {
                page.end(0);
                model.end(0);
                String s = drawnDay(random, model);
                type(page, model, s);
                due("day " + s, page.day(), model.day());
                break;
            }
            case 36: due("undo", page.undo(), model.undo()); break;
            case 37: {
                int seed = random.nextInt();
                int n = near(random, 1, 30);
                due("years " + seed + " " + n, page.years(seed, n), model.years(seed, n));
                break;
            }
            case 38: {
                int i = near(random, 0, 1);
                due("keep " + i, page.keep(i) ? 1 : 0, model.keep(i) ? 1 : 0);
                break;
            }
            case 39: {
                int i = near(random, 0, 1);
                if (random.nextInt(3) == 0) {
                    due("again " + i, page.again(i) ? 1 : 0, model.again(i) ? 1 : 0);
                }
                break;
            }
            case 40: {
                int what = near(random, 0, 15);
                due("count " + what, page.count(what), model.count(what));
                break;
            }
            default: {
                int i = near(random, 0, model.row.size());
                long want = i >= 0 && i < model.row.size() ? model.row.get(i) : THROWN;
                due("row " + i, row(page, i), want);
            }
        }
    }

    private static void compare(String when, RingedPage page, Model model) {
        for (int what = 0; what < 16; what++) {
            due("count " + what + " " + when, page.count(what), model.count(what));
        }
        for (int i = 0; i < model.row.size(); i++) {
            due("row " + i + " " + when, row(page, i), model.row.get(i));
        }
    }

    private static void due(String call, long got, long want) {
        if (!call.endsWith("behind it")) {
            told.append(call).append(" -> ").append(got).append('\n');
        }
        if (got != want) {
            wrong++;
            told.append("WRONG: ").append(call).append(" answered ").append(got).append(", due is ").append(want).append('\n');
        }
    }

    private static long word(RingedPage page, int which, int k, int what) {
        try {
            return page.word(which, k, what);
        } catch (NoSuchElementException e) {
            return THROWN;
        }
    }

    private static long tie(RingedPage page, int i) {
        try {
            return page.tie(i);
        } catch (NoSuchElementException e) {
            return THROWN;
        }
    }

    private static long row(RingedPage page, int i) {
        try {
            return page.row(i);
        } catch (NoSuchElementException e) {
            return THROWN;
        }
    }

    /** A word's number is its identity here, so that ties need no moving: they name words, not places. */
    private static final class Word {
        final int size;
        final Object name;

        Word(int size, Object name) {
            this.size = size;
            this.name = name;
        }
    }

    private static final class Tie {
        final Object from;
        final Object to;

        Tie(Object from, Object to) {
            this.from = from;
            this.to = to;
        }
    }

    private static final class Leaf {
        int width = 40;
        int height = 20;
        int gutter = 1;
        int crown = 2;
        int inner = 10;
        int outer = 10;
        int[] weights = {10000, 100, 1};
        List<Word>[] text = lists();
        List<Tie> ties = new ArrayList<>();

        @SuppressWarnings("unchecked")
        private static List<Word>[] lists() {
            return new List[] {new ArrayList<Word>(), new ArrayList<Word>(), new ArrayList<Word>()};
        }

        Leaf twin() {
            Leaf other = new Leaf();
            other.width = width;
            other.height = height;
            other.gutter = gutter;
            other.crown = crown;
            other.inner = inner;
            other.outer = outer;
            other.weights = weights.clone();
            for (int t = 0; t < 3; t++) {
                other.text[t] = new ArrayList<>(text[t]);
            }
            other.ties = new ArrayList<>(ties);
            return other;
        }

        boolean canBe() {
            return crown >= 0 && crown <= 9 && crown < height && inner >= 9 && inner <= 40 && outer >= 9 && outer <= 40
                && width >= 29 && width <= 60 && height >= 3 && height <= 40 && gutter >= 1 && gutter <= 4
                && inner + outer + 9 + 2 * gutter <= width;
        }

        Leaf by(int c, int i, int o) {
            Leaf other = twin();
            other.crown = c;
            other.inner = i;
            other.outer = o;
            return other;
        }

        int indexOf(int which, Object name) {
            for (int k = 0; k < text[which].size(); k++) {
                if (text[which].get(k).name == name) {
                    return k;
                }
            }
            return -1;
        }

        int commentOf(Tie tie) {
            return indexOf(1, tie.from) >= 0 ? 1 : 2;
        }

        void dropLostTies() {
            ties.removeIf(tie -> indexOf(0, tie.to) < 0 || indexOf(1, tie.from) < 0 && indexOf(2, tie.from) < 0);
        }

        int[] plan() {
            return new int[] {crown, inner, outer};
        }
    }

    /** One part, with its words where they stand. */
    private static final class Part {
        int which;
        int page;
        int line;
        int first;
        int n;
        int width;
        int column;
        int ragged;
        int[] columns;
    }

    /** All parts, and all pages with what stands in each column: 1000 times the letter, 100 times the text, the word; or -1. */
    private static final class Sheet {
        final Leaf leaf;
        final List<Part> parts = new ArrayList<>();
        final List<int[][]> pages = new ArrayList<>();

        Sheet(Leaf leaf) {
            this.leaf = leaf;
            int[] at = new int[3];
            while (at[0] < leaf.text[0].size() || at[1] < leaf.text[1].size() || at[2] < leaf.text[2].size()) {
                int[][] page = new int[leaf.height][leaf.width];
                for (int[] line : page) {
                    java.util.Arrays.fill(line, -1);
                }
                pages.add(page);
                for (int line = 0; line < leaf.height; line++) {
                    setLine(line, at);
                }
            }
        }

        private void setLine(int line, int[] at) {
            List<Integer> which = new ArrayList<>();
            for (int t : new int[] {1, 0, 2}) {
                boolean left = at[t] < leaf.text[t].size();
                boolean comments = at[1] < leaf.text[1].size() || at[2] < leaf.text[2].size();
                if (left && !(t == 0 && line < leaf.crown && comments)) {
                    which.add(t);
                }
            }
            int column = 0;
            int[] widths = widths(which);
            for (int i = 0; i < which.size(); i++) {
                take(which.get(i), line, column, widths[i], at);
                column += widths[i] + leaf.gutter;
            }
        }

        private int[] widths(List<Integer> which) {
            int w = leaf.width;
            int g = leaf.gutter;
            switch (which.toString()) {
                case "[]": return new int[] {};
                case "[0]":
                case "[1]":
                case "[2]": return new int[] {w};
                case "[1, 2]": {
                    int half = (w - g) / 2;
                    return new int[] {half, w - half - g};
                }
                case "[1, 0]": return new int[] {leaf.inner, w - leaf.inner - g};
                case "[0, 2]": return new int[] {w - leaf.outer - g, leaf.outer};
                default: return new int[] {leaf.inner, w - leaf.inner - leaf.outer - 2 * g, leaf.outer};
            }
        }

        private void take(int t, int line, int column, int width, int[] at) {
            Part part = new Part();
            part.which = t;
            part.page = pages.size() - 1;
            part.line = line;
            part.first = at[t];
            part.width = width;
            part.column = column;
            int used = -1;
            int letters = 0;
            while (at[t] < leaf.text[t].size() && used + 1 + leaf.text[t].get(at[t]).size <= width) {
                used += 1 + leaf.text[t].get(at[t]).size;
                letters += leaf.text[t].get(at[t]).size;
                at[t]++;
                part.n++;
            }
            boolean last = at[t] == leaf.text[t].size();
            part.ragged = last ? 0 : (width - used) * (width - used);
            int[] blanks = new int[part.n];
            int rest = width - letters;
            if (last || part.n == 1) {
                java.util.Arrays.fill(blanks, 1);
            } else {
                for (int i = 0; rest > 0; i = (i + 1) % (part.n - 1)) {
                    blanks[i]++;
                    rest--;
                }
            }
            part.columns = new int[part.n];
            int c = column;
            for (int i = 0; i < part.n; i++) {
                part.columns[i] = c;
                int size = leaf.text[t].get(part.first + i).size;
                for (int letter = 0; letter < size; letter++) {
                    pages.get(part.page)[line][c + letter] = 1000 * letter + 100 * t + part.first + i;
                }
                c += size + blanks[i];
            }
            parts.add(part);
        }

        Part partOf(int t, int k) {
            for (Part part : parts) {
                if (part.which == t && k >= part.first && k < part.first + part.n) {
                    return part;
                }
            }
            throw new IllegalStateException("no part has word " + k + " of " + t);
        }

        int place(int t, int k) {
            Part part = partOf(t, k);
            return part.page * leaf.height + part.line;
        }

        int end(int t) {
            return leaf.text[t].isEmpty() ? -1 : place(t, leaf.text[t].size() - 1);
        }

        int apart() {
            int least = 99999;
            int most = -1;
            for (int t = 0; t < 3; t++) {
                if (!leaf.text[t].isEmpty()) {
                    least = Math.min(least, end(t));
                    most = Math.max(most, end(t));
                }
            }
            return most < 0 ? 0 : most - least;
        }

        int deep(Tie tie) {
            int t = leaf.commentOf(tie);
            return place(t, leaf.indexOf(t, tie.from)) - place(0, leaf.indexOf(0, tie.to));
        }

        int broken() {
            int n = 0;
            for (Tie tie : leaf.ties) {
                n += deep(tie) < 0 || deep(tie) > 6 ? 1 : 0;
            }
            return n;
        }

        int ragged() {
            int sum = 0;
            for (Part part : parts) {
                sum += part.ragged;
            }
            return sum;
        }

        int cost() {
            return apart() * leaf.weights[0] + broken() * leaf.weights[1] + ragged() * leaf.weights[2];
        }
    }

    /** The calls of the face by the second reading; the methods bear the face's names. */
    private static final class Model {
        Leaf leaf = new Leaf();
        final List<Integer> signs = new ArrayList<>();
        List<Long> row = new ArrayList<>();
        final List<Leaf> undone = new ArrayList<>();
        final Leaf[] kept = new Leaf[2];

        private Sheet set() {
            return new Sheet(leaf);
        }

        int pageCount() {
            return set().pages.size();
        }

        private void tell(long... numbers) {
            row = new ArrayList<>();
            for (long n : numbers) {
                row.add(n);
            }
        }

        private void done(Leaf was) {
            undone.add(was);
            if (undone.size() > 7) {
                undone.remove(0);
            }
        }

        int sign(int v) {
            if (signs.size() > 76) {
                return -1;
            }
            signs.add(v >> 24 & 255);
            signs.add(v >> 16 & 255);
            signs.add(v >> 8 & 255);
            signs.add(v & 255);
            return signs.size();
        }

        boolean end(int n) {
            if (n < 0 || n > signs.size()) {
                return false;
            }
            while (signs.size() > n) {
                signs.remove(n);
            }
            return true;
        }

        private String taken() {
            StringBuilder b = new StringBuilder();
            for (int s : signs) {
                b.append((char) s);
            }
            signs.clear();
            return b.toString();
        }

        int words(int which) {
            String s = taken();
            if (which < 0 || which > 2) {
                return -1;
            }
            List<Word> list = new ArrayList<>();
            for (int p = 0; p < s.length(); p++) {
                if (p == 70 || "123456789".indexOf(s.charAt(p)) < 0) {
                    return -1 - p;
                }
                list.add(new Word(s.charAt(p) - '0', new Object()));
            }
            Leaf was = leaf.twin();
            leaf.text[which] = list;
            leaf.dropLostTies();
            done(was);
            return list.size();
        }

        int ties() {
            String s = taken();
            List<Tie> list = new ArrayList<>();
            int t = 0;
            int number = 0;
            Object from = null;
            for (int p = 0; p <= s.length(); p++) {
                if (p == s.length() && p % 5 == 0) {
                    break;
                }
                char c = p < s.length() ? s.charAt(p) : (char) 0;
                boolean digit = c >= '0' && c <= '9';
                if (p % 5 == 0) {
                    if (p == 60 || c != 'i' && c != 'o') {
                        return -1 - p;
                    }
                    t = c == 'i' ? 1 : 2;
                } else if (!digit) {
                    return -1 - p;
                } else if (p % 5 == 1 || p % 5 == 3) {
                    number = c - '0';
                } else {
                    number = 10 * number + c - '0';
                    int which = p % 5 == 2 ? t : 0;
                    if (number >= leaf.text[which].size()) {
                        return -1 - p;
                    }
                    Object name = leaf.text[which].get(number).name;
                    if (which == 0) {
                        list.add(new Tie(from, name));
                    } else {
                        for (Tie tie : list) {
                            if (tie.from == name) {
                                return -1 - p;
                            }
                        }
                        from = name;
                    }
                }
            }
            done(leaf.twin());
            leaf.ties = list;
            return list.size();
        }

        int sheet(int which, int k, int kind, int n, int f, int step) {
            if (which < 0 || which > 2 || kind < 0 || kind > 3 || n > 70) {
                return -1;
            }
            if (kind == 3) {
                return -3;
            }
            if (n < 0) {
                return -2;
            }
            List<Word> list = new ArrayList<>(leaf.text[which]);
            int changed = 0;
            int v = f;
            for (int i = 0; i < n; i++) {
                int size = kind == 0 ? (byte) v : kind == 1 ? (short) v : v;
                long word = (long) k + i;
                if (word < 0 || word >= list.size()) {
                    tell(i, 1);
                    return -4;
                }
                if (size < 1 || size > 9) {
                    tell(i, 2);
                    return -4;
                }
                Word old = list.get((int) word);
                changed += old.size != size ? 1 : 0;
                list.set((int) word, new Word(size, old.name));
                v += step;
            }
            leaf.text[which] = list;
            return changed;
        }

        int pages() {
            Sheet sheet = set();
            int last = 0;
            for (Part part : sheet.parts) {
                if (part.page == sheet.pages.size() - 1) {
                    last = Math.max(last, part.line + 1);
                }
            }
            tell(last);
            return sheet.pages.size();
        }

        private boolean isLine(Sheet sheet, int page, int line) {
            return page >= 0 && page < sheet.pages.size() && line >= 0 && line < leaf.height;
        }

        int part(int page, int line, int which) {
            Sheet sheet = set();
            if (!isLine(sheet, page, line) || which < 0 || which > 2) {
                return -1;
            }
            for (Part part : sheet.parts) {
                if (part.page == page && part.line == line && part.which == which) {
                    tell(part.first, part.width, part.column, part.ragged);
                    return part.n;
                }
            }
            return -2;
        }

        int word(int which, int k, int what) {
            if (which < 0 || which > 2 || k < 0 || k >= leaf.text[which].size() || what < 0 || what > 4) {
                return THROWN;
            }
            Part part = set().partOf(which, k);
            int i = k - part.first;
            return new int[] {part.page, part.line, part.columns[i], leaf.text[which].get(k).size, i}[what];
        }

        int at(int page, int line, int column) {
            Sheet sheet = set();
            if (!isLine(sheet, page, line) || column < 0 || column >= leaf.width) {
                return -1;
            }
            int code = sheet.pages.get(page)[line][column];
            if (code < 0) {
                return -2;
            }
            tell(code / 1000);
            return code % 1000;
        }

        int ends(int which) {
            if (which < 0 || which > 2) {
                return -1;
            }
            Sheet sheet = set();
            int parts = 0;
            int ragged = 0;
            for (Part part : sheet.parts) {
                parts += part.which == which ? 1 : 0;
                ragged += part.which == which ? part.ragged : 0;
            }
            tell(parts, ragged);
            return sheet.end(which);
        }

        int apart() {
            Sheet sheet = set();
            int first = -1;
            int last = -1;
            for (int t = 0; t < 3; t++) {
                if (leaf.text[t].isEmpty()) {
                    continue;
                }
                first = first < 0 || sheet.end(t) < sheet.end(first) ? t : first;
                last = last < 0 || sheet.end(t) > sheet.end(last) ? t : last;
            }
            tell(first, last);
            return sheet.apart();
        }

        int ragged() {
            Sheet sheet = set();
            Part found = null;
            for (Part part : sheet.parts) {
                boolean greater = found == null ? part.ragged > 0 : part.ragged > found.ragged;
                boolean ahead = found != null && part.ragged == found.ragged && part.page == found.page
                    && part.line == found.line && part.which < found.which;
                found = greater || ahead ? part : found;
            }
            if (found == null) {
                tell(0, 0, 0, 0);
            } else {
                tell(found.ragged, found.page, found.line, found.which);
            }
            return sheet.ragged();
        }

        int cost() {
            Sheet sheet = set();
            tell(sheet.apart(), sheet.broken(), sheet.ragged());
            return sheet.cost();
        }

        int line(int page, int line) {
            Sheet sheet = set();
            if (!isLine(sheet, page, line)) {
                return -1;
            }
            row = new ArrayList<>();
            int letters = 0;
            for (int code : sheet.pages.get(page)[line]) {
                row.add(code < 0 ? 0L : code % 1000 / 100 + 1);
                letters += code < 0 ? 0 : 1;
            }
            return letters;
        }

        int blank() {
            int all = 0;
            int last = 0;
            for (int[][] page : set().pages) {
                last = 0;
                for (int[] line : page) {
                    for (int code : line) {
                        last += code < 0 ? 1 : 0;
                    }
                }
                all += last;
            }
            tell(last);
            return all;
        }

        int tie(int i) {
            if (i < 0 || i >= leaf.ties.size()) {
                return THROWN;
            }
            Tie tie = leaf.ties.get(i);
            int deep = set().deep(tie);
            int t = leaf.commentOf(tie);
            tell(deep < 0 || deep > 6 ? 1 : 0, t, leaf.indexOf(t, tie.from), leaf.indexOf(0, tie.to));
            return deep;
        }

        int broken() {
            Sheet sheet = set();
            int first = -1;
            int sum = 0;
            for (int i = 0; i < leaf.ties.size(); i++) {
                int deep = sheet.deep(leaf.ties.get(i));
                sum += deep;
                first = first < 0 && (deep < 0 || deep > 6) ? i : first;
            }
            tell(first, sum);
            return sheet.broken();
        }

        int loose() {
            int first = -1;
            int n = 0;
            for (int j = 0; j < leaf.text[0].size(); j++) {
                Object name = leaf.text[0].get(j).name;
                if (leaf.ties.stream().noneMatch(tie -> tie.to == name)) {
                    first = n == 0 ? j : first;
                    n++;
                }
            }
            tell(first);
            return n;
        }

        int by(int crown, int inner, int outer) {
            Leaf other = leaf.by(crown, inner, outer);
            if (!canBe(crown, inner, outer)) {
                return -1;
            }
            Sheet sheet = new Sheet(other);
            tell(sheet.pages.size(), sheet.apart(), sheet.broken(), sheet.ragged());
            return sheet.cost();
        }

        private boolean canBe(int crown, int inner, int outer) {
            return inner >= 0 && inner < 100 && outer >= 0 && outer < 100 && leaf.by(crown, inner, outer).canBe();
        }

        private List<int[]> grid(int most, int step) {
            List<int[]> list = new ArrayList<>();
            for (int crown = 0; crown <= most; crown++) {
                for (int inner = 9; inner <= 40; inner += step) {
                    for (int outer = 9; outer <= 40; outer += step) {
                        if (canBe(crown, inner, outer)) {
                            list.add(new int[] {crown, inner, outer});
                        }
                    }
                }
            }
            return list;
        }

        private int costBy(int[] plan) {
            return new Sheet(leaf.by(plan[0], plan[1], plan[2])).cost();
        }

        private int[] bestOf(int most, int step) {
            int[] found = null;
            int least = 0;
            for (int[] plan : grid(most, step)) {
                int cost = costBy(plan);
                if (found == null || cost < least) {
                    found = plan;
                    least = cost;
                }
            }
            return found;
        }

        private boolean isGrid(int most, int step) {
            return most >= 0 && most < 10 && step > 0 && step < 10;
        }

        int best(int most, int step) {
            if (!isGrid(most, step)) {
                return -1;
            }
            int[] plan = bestOf(most, step);
            tell(plan[0], plan[1], plan[2], grid(most, step).size());
            return costBy(plan);
        }

        int near(int most, int step, int n) {
            if (!isGrid(most, step) || n < 0 || n > 99) {
                return -1;
            }
            int found = 0;
            tell();
            for (int[] plan : grid(most, step)) {
                if (new Sheet(leaf.by(plan[0], plan[1], plan[2])).apart() <= n) {
                    if (found == 0) {
                        tell(plan[0], plan[1], plan[2]);
                    }
                    found++;
                }
            }
            return found;
        }

        int climbs() {
            int[] plan = leaf.plan();
            int steps = 0;
            while (true) {
                int[] least = null;
                for (int i = 0; i < 6; i++) {
                    int[] other = plan.clone();
                    other[i / 2] += i % 2 * 2 - 1;
                    if (canBe(other[0], other[1], other[2]) && (least == null || costBy(other) < costBy(least))) {
                        least = other;
                    }
                }
                if (least == null || costBy(least) >= costBy(plan)) {
                    tell(plan[0], plan[1], plan[2], costBy(plan));
                    return steps;
                }
                plan = least;
                steps++;
            }
        }

        int narrow(int n) {
            if (n < 1 || n > 9) {
                return -1;
            }
            for (int w = 29; w <= 60; w++) {
                Leaf other = leaf.twin();
                other.width = w;
                if (other.canBe() && new Sheet(other).pages.size() <= n) {
                    tell(new Sheet(other).pages.size());
                    return w;
                }
            }
            return -2;
        }

        int low(int n) {
            if (n < 1 || n > 9) {
                return -1;
            }
            for (int h = 3; h <= 40; h++) {
                Leaf other = leaf.twin();
                other.height = h;
                if (other.canBe() && new Sheet(other).pages.size() <= n) {
                    tell(new Sheet(other).pages.size());
                    return h;
                }
            }
            return -2;
        }

        private int put(Leaf on, int which, int k, int size) {
            if (which < 0 || which > 2 || k < 0 || k > on.text[which].size() || size < 1 || size > 9) {
                return -1;
            }
            if (on.text[which].size() == 70) {
                return -3;
            }
            on.text[which].add(k, new Word(size, new Object()));
            return on.text[which].size();
        }

        private int drop(Leaf on, int which, int k) {
            if (which < 0 || which > 2 || k < 0 || k >= on.text[which].size()) {
                return -1;
            }
            on.text[which].remove(k);
            on.dropLostTies();
            return on.text[which].size();
        }

        int more(int which, int k, int size) {
            Leaf other = leaf.twin();
            int answer = put(other, which, k, size);
            return answer < 0 ? answer : new Sheet(other).cost();
        }

        int less(int which, int k) {
            Leaf other = leaf.twin();
            int answer = drop(other, which, k);
            return answer < 0 ? answer : new Sheet(other).cost();
        }

        int spare(int what) {
            if (what != 1 && what != 2) {
                return -1;
            }
            int pages = pageCount();
            if (pages == 0) {
                return -2;
            }
            // From the most on downward, so that it would be seen if pages could become fewer again.
            for (int n = 70 - leaf.text[what].size(); n >= 0; n--) {
                Leaf other = leaf.twin();
                for (int i = 0; i < n; i++) {
                    other.text[what].add(new Word(5, new Object()));
                }
                Sheet sheet = new Sheet(other);
                if (sheet.pages.size() == pages) {
                    tell(sheet.apart());
                    return n;
                }
            }
            throw new IllegalStateException("not even with none more");
        }

        private int kept(Leaf was, int answer) {
            if (answer >= 0) {
                done(was);
            }
            return answer;
        }

        int sets(int what, int v) {
            return kept(leaf.twin(), doSet(what, v));
        }

        private int doSet(int what, int v) {
            int[] least = {29, 3, 1};
            int[] most = {60, 40, 4};
            if (what < 0 || what > 2 || v < least[what] || v > most[what]) {
                return -1;
            }
            Leaf other = leaf.twin();
            int was = what == 0 ? leaf.width : what == 1 ? leaf.height : leaf.gutter;
            if (was == v) {
                return -2;
            }
            other.width = what == 0 ? v : other.width;
            other.height = what == 1 ? v : other.height;
            other.gutter = what == 2 ? v : other.gutter;
            if (!other.canBe()) {
                return -3;
            }
            leaf = other;
            return was;
        }

        int weighs(int what, int v) {
            if (what < 0 || what > 2 || v < 0 || v > (what == 2 ? 100 : 10000)) {
                return -1;
            }
            int was = leaf.weights[what];
            if (was == v) {
                return -2;
            }
            done(leaf.twin());
            leaf.weights[what] = v;
            return was;
        }

        int swaps() {
            return kept(leaf.twin(), doSwap());
        }

        private int doSwap() {
            if (leaf.text[1].isEmpty() && leaf.text[2].isEmpty()) {
                return -2;
            }
            List<Word> inner = leaf.text[1];
            leaf.text[1] = leaf.text[2];
            leaf.text[2] = inner;
            return leaf.text[1].size();
        }

        int plans(int crown, int inner, int outer) {
            return kept(leaf.twin(), doPlan(crown, inner, outer));
        }

        private int doPlan(int crown, int inner, int outer) {
            if (!canBe(crown, inner, outer)) {
                return -1;
            }
            int[] was = leaf.plan();
            if (was[0] == crown && was[1] == inner && was[2] == outer) {
                return -2;
            }
            leaf = leaf.by(crown, inner, outer);
            return 10000 * was[0] + 100 * was[1] + was[2];
        }

        int takesBest(int most, int step) {
            return kept(leaf.twin(), doBest(most, step));
        }

        private int doBest(int most, int step) {
            if (!isGrid(most, step)) {
                return -1;
            }
            int[] plan = bestOf(most, step);
            return doPlan(plan[0], plan[1], plan[2]) < 0 ? -2 : set().cost();
        }

        int comes(int which, int k, int size) {
            return kept(leaf.twin(), put(leaf, which, k, size));
        }

        int goes(int which, int k) {
            return kept(leaf.twin(), drop(leaf, which, k));
        }

        private static String formOf(char c) {
            int i = "whuxpcgb".indexOf(c);
            return i < 0 ? null : new String[] {"2", "2", "1", "", "122", "121", "12", "11"}[i];
        }

        int day() {
            String s = taken();
            List<int[]> acts = new ArrayList<>();
            int p = 0;
            while (p < s.length()) {
                String form = formOf(s.charAt(p));
                if (form == null) {
                    return -1 - p;
                }
                int[] act = new int[1 + form.length()];
                act[0] = s.charAt(p);
                p++;
                for (int i = 0; i < form.length(); i++) {
                    for (int d = 0; d < form.charAt(i) - '0'; d++, p++) {
                        if (p >= s.length() || s.charAt(p) < '0' || s.charAt(p) > '9') {
                            return -1 - p;
                        }
                        act[1 + i] = 10 * act[1 + i] + s.charAt(p) - '0';
                    }
                }
                acts.add(act);
            }
            Leaf was = leaf.twin();
            int n = 0;
            while (n < acts.size() && act(acts.get(n)) >= 0) {
                n++;
            }
            if (n > 0) {
                done(was);
            }
            tell(n < acts.size() ? 1 : 0, set().cost());
            return n;
        }

        private int act(int[] a) {
            switch (a[0]) {
                case 'w': return doSet(0, a[1]);
                case 'h': return doSet(1, a[1]);
                case 'u': return doSet(2, a[1]);
                case 'x': return doSwap();
                case 'p': return doPlan(a[1], a[2], a[3]);
                case 'c': return put(leaf, a[1], a[2], a[3]);
                case 'g': return drop(leaf, a[1], a[2]);
                default: return doBest(a[1], a[2]);
            }
        }

        int undo() {
            if (undone.isEmpty()) {
                return -1;
            }
            leaf = undone.remove(undone.size() - 1);
            return undone.size();
        }

        int years(int seed, int n) {
            if (n < 1 || n > 30) {
                return -1;
            }
            Leaf other = leaf.twin();
            long r = seed & 0xffffffffL;
            for (int i = 0; i < n; i++) {
                r = (r * 1103515245L + 12345L) & 0xffffffffL;
                int which = (int) (r / 65536 % 3);
                r = (r * 1103515245L + 12345L) & 0xffffffffL;
                int size = 1 + (int) (r / 65536 % 9);
                put(other, which, other.text[which].size(), size);
            }
            Sheet sheet = new Sheet(other);
            tell(sheet.cost(), other.text[0].size(), other.text[1].size(), other.text[2].size());
            return sheet.pages.size();
        }

        boolean keep(int i) {
            if (i < 0 || i > 1) {
                return false;
            }
            kept[i] = leaf.twin();
            return true;
        }

        boolean again(int i) {
            if (i < 0 || i > 1 || kept[i] == null) {
                return false;
            }
            leaf = kept[i].twin();
            undone.clear();
            return true;
        }

        int count(int what) {
            int[] all = {leaf.width, leaf.height, leaf.crown, leaf.inner, leaf.outer, leaf.text[0].size(), leaf.text[1].size(),
                leaf.text[2].size(), leaf.ties.size(), undone.size(), row.size(), signs.size(), leaf.gutter,
                leaf.weights[0], leaf.weights[1], leaf.weights[2]};
            return what >= 0 && what < all.length ? all[what] : -1;
        }
    }
}
