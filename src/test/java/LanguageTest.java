import java.io.IOException;
import java.lang.reflect.Array;
import java.lang.reflect.Field;
import java.lang.reflect.Method;
import java.lang.reflect.Modifier;
import java.nio.file.Files;
import java.nio.file.Path;
import java.util.ArrayList;
import java.util.Arrays;
import java.util.Collections;
import java.util.IdentityHashMap;
import java.util.List;
import java.util.Set;
import java.util.TreeSet;
import java.util.regex.Matcher;
import java.util.regex.Pattern;

/** The face of the document as it must stand, and the rules of LANGUAGE.md that can be seen from outside. */
public final class LanguageTest {
    private static final String[] FACE = {
        "int sign(int)", "boolean end(int)", "int words(int)", "int ties()", "int sheet(int, int, int, int, int, int)",
        "int pages()", "int part(int, int, int)", "int word(int, int, int)", "int at(int, int, int)", "int ends(int)",
        "int apart()", "int ragged()", "int cost()", "int line(int, int)", "int blank()", "int tie(int)", "int broken()",
        "int loose()", "int by(int, int, int)", "int best(int, int)", "int near(int, int, int)", "int climbs()",
        "int narrow(int)", "int low(int)", "int more(int, int, int)", "int less(int, int)", "int spare(int)",
        "int sets(int, int)", "int weighs(int, int)", "int swaps()", "int plans(int, int, int)", "int takesBest(int, int)",
        "int comes(int, int, int)", "int goes(int, int)", "int day()", "int undo()", "int years(int, int)",
        "boolean keep(int)", "boolean again(int)", "int count(int)", "long row(int)"};
    private static final String SOURCE = "src/main/java/RingedPage.java";
    private static final Pattern METHOD =
        Pattern.compile("^( ++)(?!(?:if|for|while|switch|else)\\b)[\\w\\[\\] ]+\\(.*\\)( throws \\w+)? \\{$");
    private static int wrong = 0;

    public static void main(String[] args) throws IOException, IllegalAccessException {
        theFace();
        for (Class<?> c : classes()) {
            theMembers(c);
        }
        String code = withoutComments(Files.readString(Path.of(SOURCE)));
        theWords(code);
        theCalls(code);
        theMethods(code);
        whatIsMade(code);
        theRoom();
        System.out.println("the face and the language: " + wrong + " wrong");
        if (wrong != 0) {
            System.exit(1);
        }
    }

    private static void hold(boolean holds, String what) {
        if (!holds) {
            wrong++;
            System.out.println(what);
        }
    }

    private static List<Class<?>> classes() {
        List<Class<?>> all = new ArrayList<>();
        all.add(RingedPage.class);
        all.addAll(Arrays.asList(RingedPage.class.getDeclaredClasses()));
        return all;
    }

    private static void theFace() {
        Class<?> c = RingedPage.class;
        hold(Modifier.isPublic(c.getModifiers()) && Modifier.isFinal(c.getModifiers()), "rule 1: public and final");
        hold(c.getDeclaredConstructors().length == 1 && c.getConstructors().length == 1, "rule 1: one public constructor");
        hold(c.getPackageName().isEmpty(), "no package");
        List<String> got = new ArrayList<>();
        TreeSet<String> names = new TreeSet<>();
        for (Method m : c.getDeclaredMethods()) {
            if (Modifier.isPublic(m.getModifiers())) {
                got.add(signature(m));
                names.add(m.getName());
                boolean throwing = Arrays.asList("word", "tie", "row").contains(m.getName());
                hold(m.getExceptionTypes().length == (throwing ? 1 : 0), "what it throws: " + m.getName());
            }
        }
        List<String> want = new ArrayList<>(Arrays.asList(FACE));
        Collections.sort(want);
        Collections.sort(got);
        hold(want.equals(got), "rule 1: the face is " + got);
        for (Class<?> each : classes()) {
            for (Method m : each.getDeclaredMethods()) {
                boolean ofFace = each == c && Modifier.isPublic(m.getModifiers());
                hold(ofFace || !names.contains(m.getName()), "rule 1: bears the name of a public one: " + m);
            }
        }
        hold(classes().size() <= 12, "rule 11: too many classes");
    }

    private static String signature(Method m) {
        List<String> types = new ArrayList<>();
        for (Class<?> type : m.getParameterTypes()) {
            types.add(type.getSimpleName());
        }
        return m.getReturnType().getSimpleName() + " " + m.getName() + "(" + String.join(", ", types) + ")";
    }

    private static void theMembers(Class<?> c) {
        boolean outer = c == RingedPage.class;
        hold(outer || Modifier.isStatic(c.getModifiers()) && !Modifier.isPublic(c.getModifiers()), "rule 1: class " + c);
        int fields = 0;
        for (Field f : c.getDeclaredFields()) {
            boolean isStatic = Modifier.isStatic(f.getModifiers());
            fields += isStatic ? 0 : 1;
            hold(!isStatic || Modifier.isFinal(f.getModifiers()), "rule 5: " + f);
            hold(!outer || Modifier.isPrivate(f.getModifiers()) || f.getName().equals("NONE"), "rule 1: field " + f);
        }
        hold(fields <= 20, "rule 11: too many fields in " + c);
        for (Method m : c.getDeclaredMethods()) {
            boolean seen = !Modifier.isPrivate(m.getModifiers()) && !Modifier.isPublic(m.getModifiers());
            hold(!outer || !seen || m.isSynthetic(), "rule 1: method " + m);
            hold(m.getParameterCount() <= 7, "rule 11: too many parameters: " + m);
        }
    }

    private static String withoutComments(String code) {
        return code.replaceAll("(?s)/\\*.*?\\*/", "").replaceAll("//[^\n]*", "");
    }

    private static void theWords(String code) {
        String[] refused = {"\\btry\\b", "\\bcatch\\b", "\\bfinally\\b", "\\bsynchronized\\b", "\\bassert\\b", "->", "::",
            "\\bpackage\\b", "\\bprotected\\b", "\\bObject\\b", "\\bdouble\\b", "\\bfloat\\b", "Exact\\b", "\\bSystem\\.(?!arraycopy)",
            "\\bhashCode\\b", "\\btoString\\b", "\\bequals\\b", "\\bThread\\b", "\\bRandom\\b", "[^\\x00-\\x7f]", "\\bvar\\b"};
        for (String word : refused) {
            hold(!Pattern.compile(word).matcher(code).find(), "not in the language: " + word);
        }
        Matcher imports = Pattern.compile("import ([^;]*);").matcher(code);
        while (imports.find()) {
            hold(imports.group(1).equals("java.util.NoSuchElementException"), "rule 4: import " + imports.group(1));
        }
        Matcher thrown = Pattern.compile("throw new (\\w+)").matcher(code);
        while (thrown.find()) {
            hold(thrown.group(1).equals("NoSuchElementException"), "the document names no " + thrown.group(1));
        }
    }

    private static void theCalls(String code) {
        Matcher calls = Pattern.compile("\\b(Math|Integer|Long|Arrays|System)\\.(\\w+)").matcher(code);
        while (calls.find()) {
            String call = calls.group();
            hold(Arrays.asList("Math.max", "Math.min", "System.arraycopy").contains(call), "rule 4: " + call);
        }
    }

    private static void theMethods(String code) {
        String[] lines = code.split("\n");
        int from = -1;
        String indent = "";
        for (int i = 0; i < lines.length; i++) {
            Matcher head = METHOD.matcher(lines[i]);
            if (from < 0 && head.find()) {
                from = i;
                indent = head.group(1);
            } else if (from >= 0 && lines[i].equals(indent + "}")) {
                hold(i - from <= 60, "rule 11: a long method: " + lines[from].trim());
                from = -1;
            }
        }
        hold(from < 0, "a method without an end");
    }

    /** Rule 12: objects are made in constructors and for fields alone, and to be thrown. */
    private static void whatIsMade(String code) {
        String inside = "";
        for (String line : code.split("\n")) {
            Matcher head = METHOD.matcher(line);
            if (inside.isEmpty() && head.find()) {
                inside = line;
            } else if (!inside.isEmpty() && line.equals(inside.replaceAll("\\S.*", "") + "}")) {
                inside = "";
            }
            boolean isConstructor = inside.trim().matches("(public )?[A-Z]\\w*\\(\\) \\{");
            boolean makes = Pattern.compile("\\bnew\\b|\\.clone\\(").matcher(line.replace("throw new", "")).find();
            hold(inside.isEmpty() || isConstructor || !makes, "rule 12: made in a call: " + line.trim());
        }
    }

    /** All calls of a run live in one room: an object takes little of it, and no more after its last call than as it was made. */
    private static void theRoom() throws IllegalAccessException {
        RingedPage x = new RingedPage();
        long[] first = roomOf(x);
        for (int i = 0; i < 511; i++) {
            switch (i % 7) {
                case 0: x.sign(0x39393939); break;
                case 1: x.words(i % 3); break;
                case 2: x.comes(i % 3, 0, 1 + i % 9); break;
                case 3: x.takesBest(i % 10, 1 + i % 9); break;
                case 4: x.keep(i % 2); break;
                case 5: x.line(0, 0); break;
                default: x.undo(); break;
            }
        }
        hold(Arrays.equals(first, roomOf(x)), "an object grows: " + Arrays.toString(first) + Arrays.toString(roomOf(x)));
        hold(first[0] > 10 && first[0] <= 600, "objects and arrays of one object: " + first[0]);
        hold(first[1] > 1000 && first[1] <= 10000, "fields and elements of one object: " + first[1]);
    }

    /** How many objects and arrays can be reached from this one, and how many fields and elements they have. */
    private static long[] roomOf(Object root) throws IllegalAccessException {
        Set<Object> seen = Collections.newSetFromMap(new IdentityHashMap<>());
        List<Object> open = new ArrayList<>(List.of(root));
        long[] room = new long[2];
        while (!open.isEmpty()) {
            Object next = open.remove(open.size() - 1);
            if (next == null || !seen.add(next)) {
                continue;
            }
            room[0]++;
            if (next.getClass().isArray()) {
                room[1] += Array.getLength(next);
                if (next instanceof Object[] parts) {
                    open.addAll(Arrays.asList(parts));
                }
                continue;
            }
            for (Field f : next.getClass().getDeclaredFields()) {
                if (!Modifier.isStatic(f.getModifiers())) {
                    room[1]++;
                    f.setAccessible(true);
                    if (!f.getType().isPrimitive()) {
                        open.add(f.get(next));
                    }
                }
            }
        }
        return room;
    }
}
