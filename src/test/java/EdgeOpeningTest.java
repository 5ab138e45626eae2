import java.lang.reflect.Field;
import java.lang.reflect.Method;
import java.lang.reflect.Modifier;
import java.nio.file.Path;
import java.util.ArrayList;
import java.util.List;
import java.util.TreeSet;
import java.util.regex.Matcher;
import java.util.regex.Pattern;

/** What stands in the document ahead of its promises: its opening, the public face, and what the interface says ahead of the calls. */
public final class EdgeOpeningTest extends Checks {
    private static final int MOST_CALLS = 512;
    private static final String SOURCE = contentOf(Path.of("src/main/java/RingedPage.java"));

    public static void main(String[] args) {
        roundTheMainText();
        wordsBySizes();
        crownsOverMain();
        roomForOthers();
        whereWordsStand();
        notesBelowWords();
        pagesAndEnds();
        endTogether();
        narrowLowComeAndGo();
        changesAndDays();
        drawnTexts();
        usedForAllItsCalls();
        if (isDocumentThere()) {
            theFace();
            aheadOfTheCalls();
            nothingElseStandsThere();
        }
        finishParts("What it is");
    }

    // ---- what it is

    private static void roundTheMainText() {
        edge("What it is", "A main text with two comments round it, set on pages:");
        RingedPage x = small();
        due("letters of the line", x.line(0, 1), 32);
        due("INNER, MAIN, OUTER", signsOfRow(x), "2222002222" + "0" + "111110011111011111" + "0" + "3333333330");
        due("on pages", x.pages(), 2);
    }

    private static void wordsBySizes() {
        edge("What it is", "words by their sizes,");
        RingedPage x = new RingedPage();
        due("nine words", words(x, 0, "192837465"), 9);
        due("their sizes", wordsOf(x, 0), "192837465");
    }

    private static void crownsOverMain() {
        edge("What it is", "crowns over the main text,");
        RingedPage x = small();
        due("MAIN is not in the crown", x.part(0, 0, 0), -2);
        due("INNER is", x, x.part(0, 0, 1), 4, 0, 19, 0, 0);
        due("OUTER is", x, x.part(0, 0, 2), 2, 0, 20, 20, 1);
    }

    private static void roomForOthers() {
        edge("What it is", "lines whose widths go by what is left of each text, so that a text that ends makes room for the others;");
        RingedPage x = small();
        due("MAIN beside both", x, x.part(0, 1, 0), 3, 0, 18, 11, 1);
        due("MAIN, when OUTER has ended", x, x.part(0, 2, 0), 5, 3, 29, 11, 0);
        due("MAIN, when both have ended", x, x.part(1, 0, 0), 4, 8, 40, 0, 0);
    }

    private static void whereWordsStand() {
        edge("What it is", "where each word stands, what each line holds, how ragged it is, blanks spread in it;");
        RingedPage x = small();
        int[] stands = {0, 1, 18, 5, 1};
        for (int what = 0; what < stands.length; what++) {
            due("word 1 of MAIN, what " + what, x.word(0, 1, what), stands[what]);
        }
        due("what the line holds there", x, x.at(0, 1, 18), 1, 0);
        due("how ragged it is", x, x.ragged(), 3, 1, 0, 0, 2);
        // 15 letters in 18 columns: two blanks, then one
        due("blanks spread", x.word(0, 2, 2), 24);
    }

    private static void notesBelowWords() {
        edge("What it is", "notes tied to words of the main text and how far below these they come;");
        RingedPage x = smallTied();
        due("above its word", x, x.tie(0), -1, 1, 1, 0, 0);
        due("beside its word", x, x.tie(1), 0, 0, 1, 7, 3);
        due("a page above its word", x, x.tie(2), -2, 1, 2, 2, 8);
    }

    private static void pagesAndEnds() {
        edge("What it is", "on how many pages all stands, in which line each text ends;");
        RingedPage x = small();
        due("pages", x, x.pages(), 2, 1);
        due("MAIN ends", x, x.ends(0), 3, 3, 1);
        due("INNER ends", x, x.ends(1), 2, 3, 1);
        due("OUTER ends", x, x.ends(2), 1, 2, 1);
    }

    private static void endTogether() {
        edge("What it is", "the shares by which all three end together, searched for in a told grid;");
        RingedPage x = page(40, 20, 1, 2, 10, 10, "9", "9", "99");
        due("not together yet", x.apart(), 1);
        // OUTER has both its words beside MAIN from a share of 19 on; both shares are 29 together at most
        due("plans by which they do", x, x.near(0, 1, 0), 3, 0, 9, 19);
        due("the best one", x, x.best(2, 1), 0, 0, 9, 19, 234);
        due("it is taken", x.takesBest(2, 1), 0);
        due("together", x.apart(), 0);
        due("in one line", x.ends(0) + x.ends(1) + x.ends(2), 0);
    }

    private static void narrowLowComeAndGo() {
        edge("What it is", "how narrow, how low a page may be, words that come and go, what would be;");
        // four lines in all; by 31 columns, the least for these shares, they are six
        RingedPage x = small();
        due("how narrow", x, x.narrow(2), 31, 2);
        due("how low", x, x.low(1), 4, 1);
        int more = x.more(2, 1, 7);
        due("a word comes", x.comes(2, 1, 7), 4);
        due("as it would be", x.cost(), more);
        due("it stands there", wordsOf(x, 2), "9799");
        int less = x.less(2, 1);
        due("it goes", x.goes(2, 1), 3);
        due("as it would be without", x.cost(), less);
        due("and was ahead", less, small().cost());
        due("words there could be more", x.spare(1) > 0, true);
    }

    private static void changesAndDays() {
        edge("What it is", "changes by hand, days told as texts, undone;");
        RingedPage x = small();
        String was = stateOf(x);
        int past = x.count(9);
        due("a change by hand", x.sets(0, 41), 40);
        due("a day", day(x, "w42u2xc1005g000p00909"), 6);
        due("it is done", x.count(0) + " " + x.count(12) + " " + wordsOf(x, 1) + " " + planOf(x), "42 2 5999 0 9 9");
        due("the day is undone as one", x.undo(), past + 1);
        due("the change stands yet", x.count(0), 41);
        due("it is undone", x.undo(), past);
        due("all is as it was", stateOf(x), was);
    }

    private static void drawnTexts() {
        edge("What it is", "and texts that are drawn.");
        RingedPage drawn = new RingedPage();
        draw(drawn, 2026, 30);
        int pages = drawn.pages();
        int cost = drawn.cost();
        RingedPage x = new RingedPage();
        due("thirty words", x, x.years(2026, 30), pages, cost, drawn.count(5), drawn.count(6), drawn.count(7));
        due("they are forgotten", stateOf(x), stateOf(new RingedPage()));
    }

    private static void usedForAllItsCalls() {
        edge("What it is", "An object is used for at most 512 calls after it has been made; what later calls answer is free.");
        RingedPage y = page(40, 20, 1, 2, 10, 10, "987", "987", "987");
        y.takesBest(1, 9);
        due("the 512th call, a cost", afterCalls(MOST_CALLS - 1).cost(), y.cost());
        due("the 512th call, pages", afterCalls(MOST_CALLS - 1).pages(), y.pages());
        due("the 512th call, a search", afterCalls(MOST_CALLS - 1).best(9, 1), y.best(9, 1));
        due("the 512th call, what can be undone", afterCalls(MOST_CALLS - 1).count(9), 7);
        due("the 512th call, undone", afterCalls(MOST_CALLS - 1).undo(), 6);
        due("the 512th call, a change", afterCalls(MOST_CALLS - 1).sets(0, 60), 40);
        due("the 512th call, kept", afterCalls(MOST_CALLS - 1).again(1), true);
    }

    /** Texts, plans, searches, what is kept and what is drawn in turn; at last each text is 987, and the plan the best one. */
    private static RingedPage afterCalls(int n) {
        RingedPage x = new RingedPage();
        for (int i = 0; i < n; i++) {
            int turn = i / 8;
            switch (i % 8) {
                case 0: x.sign(0x39383700); break;
                case 1: x.end(3); break;
                case 2: x.words(turn % 3); break;
                case 3: x.plans(turn % 5, 9 + turn % 4, 9); break;
                case 4: x.takesBest(1, 9); break;
                case 5: x.climbs(); break;
                case 6: x.keep(turn % 2); break;
                default: x.years(i, 30); break;
            }
        }
        return x;
    }

    // ---- the public face

    /** The face as the document writes it, against the class and against its source. */
    private static void theFace() {
        under("The public face");
        List<String> face = linesOfTheFace();
        due("lines of the face", face.size(), 46);
        due("the class imports what the face does", SOURCE.startsWith(face.get(0) + "\n"), true);
        due("the class is the face's", SOURCE.contains("\n" + face.get(1) + "\n"), true);
        due("the face ends", face.get(face.size() - 1), "}");
        TreeSet<String> due = new TreeSet<>();
        for (String line : face.subList(2, face.size() - 1)) {
            boolean isConstant = line.contains("=");
            String inSource = "\n    " + (isConstant ? line : line.replace(";", " {")) + "\n";
            due("the source has " + line, SOURCE.contains(inSource), true);
            due.add(isConstant ? line.replaceAll(" = .*", "") : line.replaceAll("(\\w+) \\w+(?=[,)])", "$1").replace(";", ""));
        }
        due("the class has these and no others", publicMembers(), due);
        due("NONE", RingedPage.NONE, -1);
    }

    private static List<String> linesOfTheFace() {
        String block = between(document(), "## The public face\n\n```java\n", "\n```");
        List<String> lines = new ArrayList<>();
        for (String line : block.split("\n")) {
            if (!line.isBlank()) {
                lines.add(line.trim());
            }
        }
        return lines;
    }

    private static TreeSet<String> publicMembers() {
        TreeSet<String> members = new TreeSet<>();
        for (Method m : RingedPage.class.getDeclaredMethods()) {
            if (Modifier.isPublic(m.getModifiers())) {
                members.add(m.toString());
            }
        }
        for (Field f : RingedPage.class.getDeclaredFields()) {
            if (Modifier.isPublic(f.getModifiers())) {
                members.add(f.toString());
            }
        }
        for (Object constructor : RingedPage.class.getConstructors()) {
            members.add(constructor.toString());
        }
        TreeSet<String> plain = new TreeSet<>();
        for (String member : members) {
            plain.add(member.replace("RingedPage.", "").replace("java.util.", "").replace(",", ", "));
        }
        return plain;
    }

    /** Each mark stands in the source, and behind it the calls of which the document says so, in their order. */
    private static void aheadOfTheCalls() {
        under("Ahead of the calls");
        Matcher told = Pattern.compile("Ahead of the calls (.*) the interface says: (---- [\\w ]+)\\.").matcher(document());
        List<String> inOrder = new ArrayList<>();
        while (told.find()) {
            List<String> names = namesIn("`(\\w+)`", told.group(1));
            String behind = between(SOURCE, "    // " + told.group(2) + "\n", "\n    // ----");
            due(told.group(2), namesIn("(?m)^    public \\w+ (\\w+)\\(", behind), names);
            inOrder.addAll(names);
        }
        due("these are all calls of the face", namesIn("(?m)^    public \\w+ (\\w+)\\(", SOURCE), inOrder);
        due("how many", inOrder.size(), 41);
    }

    private static List<String> namesIn(String pattern, String text) {
        List<String> names = new ArrayList<>();
        Matcher m = Pattern.compile(pattern).matcher(text);
        while (m.find()) {
            names.add(m.group(1));
        }
        return names;
    }

    /** The parts that tests quote, the face, and what is not promised: if the document has another part, it has no test. */
    private static void nothingElseStandsThere() {
        under("The document");
        List<String> parts = new ArrayList<>(List.of("What it is", "The public face", "Terms"));
        for (int i = 1; i <= 42; i++) {
            parts.add("Promise " + i);
        }
        parts.add("Not promised");
        due("the document begins", document().startsWith("# RingedPage\n\n## What it is\n"), true);
        due("its parts", namesIn("(?m)^## ([^:\n]+)", document()), parts);
        due("its terms", namesIn("(?m)^(\\d+)\\. ", document()), List.of("1", "2"));
    }
}
