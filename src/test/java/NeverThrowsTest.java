import java.lang.reflect.InvocationTargetException;
import java.lang.reflect.Method;
import java.lang.reflect.Modifier;
import java.util.Arrays;
import java.util.List;
import java.util.NoSuchElementException;

/**
 * LANGUAGE.md, rules 6 and 7: for any arguments in any state a call throws what the document names, and nothing else.
 * Each call of the face with edges of all its arguments, on objects that are empty, busy, full and as long as can be.
 */
public final class NeverThrowsTest extends Checks {
    private static final int[] EDGES = {MIN, MIN + 1, -71, -2, -1, 0, 1, 2, 3, 4, 5, 9, 10, 29, 39, 40, 41, 60, 69, 70, 71, 80, 99, 100, MAX - 1,
        MAX};
    private static final int[] FEW_EDGES = {MIN, -1, 0, 3, 69, 70, 71, MAX};
    private static final List<String> THROWING = List.of("word", "tie", "row");
    private static final String NINES = times("9", 70);

    public static void main(String[] args) throws IllegalAccessException {
        for (Method method : RingedPage.class.getDeclaredMethods()) {
            if (!Modifier.isPublic(method.getModifiers())) {
                continue;
            }
            for (RingedPage x : List.of(new RingedPage(), busy(), longest(), full(2), withoutPast())) {
                due(method.getName() + " throws", callAll(x, method), "");
            }
        }
        signsOfAllKinds();
        finish();
    }

    /** Three full texts, twelve ties, the narrowest and lowest page. */
    private static RingedPage longest() {
        RingedPage x = page(29, 3, 1, 2, 9, 9, NINES, NINES, NINES);
        due("its ties", ties(x, "i0000i0169i6900o0000o6969o6800i2000i2100i2200i2300i2400i2500"), 12);
        x.keep(1);
        return x;
    }

    private static String callAll(RingedPage x, Method method) throws IllegalAccessException {
        int n = method.getParameterCount();
        int[] edges = n > 3 ? FEW_EDGES : EDGES;
        int all = 1;
        for (int i = 0; i < n; i++) {
            all *= edges.length;
        }
        for (int draw = 0; draw < all; draw++) {
            Object[] arguments = new Object[n];
            int rest = draw;
            for (int i = 0; i < n; i++) {
                arguments[i] = edges[rest % edges.length];
                rest /= edges.length;
            }
            try {
                method.invoke(x, arguments);
            } catch (InvocationTargetException e) {
                boolean isTold = e.getCause() instanceof NoSuchElementException && THROWING.contains(method.getName());
                if (!isTold) {
                    return Arrays.toString(arguments) + " " + e.getCause();
                }
            }
        }
        return "";
    }

    /** The calls that read THE TEXT, with each sign at each of its first places. */
    private static void signsOfAllKinds() {
        RingedPage x = longest();
        for (String good : new String[] {"i0000", "w41", "p20909", "c0001", "g000", "b09", "999"}) {
            for (int sign = 0; sign < 256; sign++) {
                for (int p = 0; p <= good.length(); p++) {
                    String signs = good.substring(0, p) + (char) sign + good.substring(Math.min(good.length(), p + 1));
                    due("ties that are read", ties(x, signs) <= 12, true);
                    due("words that are read", words(x, 2, signs) <= 70, true);
                    due("a day that is read", day(x, signs) <= 80, true);
                    due("THE TEXT is empty", x.count(11), 0);
                }
            }
        }
    }
}
