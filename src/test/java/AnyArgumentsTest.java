import java.lang.reflect.InvocationTargetException;
import java.lang.reflect.Method;
import java.lang.reflect.Modifier;
import java.util.ArrayList;
import java.util.LinkedHashMap;
import java.util.List;
import java.util.Map;
import java.util.function.Supplier;

/** No call throws or fails to end, for any arguments in any state (LANGUAGE.md, rule 7); what it answers is in its bounds. */
public final class AnyArgumentsTest {
    private static final int MIN = Integer.MIN_VALUE;
    private static final int MAX = Integer.MAX_VALUE;
    private static final int CALLS = 100;
    private static final int[] MANY = {MIN, MIN + 1, -10000, -2, -1, 0, 1, 2, 5, 6, 7, 8, 9, 10, 20, 30, 31, 60, 61, 63, 64, 99, 100,
        300, 301, 9999, 10000, 30319, 1 << 30, MAX - 1, MAX};
    private static final int[] SOME = {MIN, -2, -1, 0, 1, 3, 7, 99, MAX};
    private static final int[] FEW = {MIN, -1, 0, MAX};

    public static void main(String[] args) throws Exception {
        Map<String, Supplier<ThanksByPost>> made = new LinkedHashMap<>();
        made.put("new", ThanksByPost::new);
        made.put("owners alone", Cities::ownersAlone);
        made.put("usual", Cities::usual);
        made.put("full", Cities::full);
        made.put("last day", Cities::last);
        made.put("gone back", () -> {
            ThanksByPost x = Cities.full();
            x.back();
            return x;
        });
        made.put("taken back", () -> {
            ThanksByPost x = Cities.usual();
            for (int i = 0; i < 31; i++) x.undo();
            return x;
        });
        for (Map.Entry<String, Supplier<ThanksByPost>> state : made.entrySet()) {
            for (Method m : ThanksByPost.class.getDeclaredMethods()) {
                if (!Modifier.isPublic(m.getModifiers())) continue;
                Checks.at(state.getKey() + ", " + m.getName());
                // One object takes many, one behind the other, but no more calls than there are promises for.
                List<Object[]> all = arguments(m);
                for (int from = 0; from < all.size(); from += CALLS) {
                    ThanksByPost x = state.getValue().get();
                    for (Object[] arguments : all.subList(from, Math.min(from + CALLS, all.size()))) call(x, m, arguments);
                    stands(x);
                }
            }
            forLong(state.getKey(), state.getValue().get());
        }
        Checks.end();
    }

    /** Behind its 512 calls an object's answers are free, but it throws none the less. */
    private static void forLong(String state, ThanksByPost x) throws Exception {
        for (Method m : ThanksByPost.class.getDeclaredMethods()) {
            if (!Modifier.isPublic(m.getModifiers())) continue;
            Checks.at(state + ", for long, " + m.getName());
            for (Object[] arguments : arguments(m)) answer(x, m, arguments);
        }
    }

    private static List<Object[]> arguments(Method m) {
        int count = m.getParameterCount();
        int[] numbers = count <= 2 ? MANY : count <= 4 ? SOME : FEW;
        List<Object[]> all = new ArrayList<>();
        all.add(new Object[count]);
        for (int i = 0; i < count; i++) {
            List<Object[]> more = new ArrayList<>();
            for (Object[] one : all) {
                if (m.getParameterTypes()[i] == boolean.class) {
                    for (boolean b : new boolean[] {false, true}) more.add(with(one, i, b));
                } else {
                    for (int n : numbers) more.add(with(one, i, n));
                }
            }
            all = more;
        }
        return all;
    }

    private static Object[] with(Object[] one, int i, Object value) {
        Object[] copy = one.clone();
        copy[i] = value;
        return copy;
    }

    private static void call(ThanksByPost x, Method m, Object[] arguments) throws Exception {
        if (answer(x, m, arguments) instanceof Number n) {
            long most = m.getName().equals("odds") ? 1000000000000000000L : 1000000;
            String call = m.getName() + java.util.Arrays.toString(arguments);
            Checks.yes(call + " = " + n, n.longValue() >= -2000000 && n.longValue() <= most);
        }
    }

    /** Null where it throws. */
    private static Object answer(ThanksByPost x, Method m, Object[] arguments) throws Exception {
        try {
            return m.invoke(x, arguments);
        } catch (InvocationTargetException e) {
            Checks.due(m.getName() + java.util.Arrays.toString(arguments) + " throws " + e.getCause(), 0, 1);
            return null;
        }
    }

    /** What the terms bound is within their bounds. */
    private static void stands(ThanksByPost x) {
        int[] most = {6, 8, 99, 9999, 30318, 4, 3, 30, 8, 9, 9, 300};
        for (int i = 0; i < 12; i++) {
            Checks.yes("about(" + i + ") = " + x.about(i), x.about(i) >= (i == 6 ? -1 : 0) && x.about(i) <= most[i]);
        }
        for (int owner = 0; owner < x.about(0); owner++) {
            Checks.yes("lives", x.ofOwner(owner, 0) >= 0 && x.ofOwner(owner, 0) <= 10);
            Checks.yes("pence", Math.abs(x.ofOwner(owner, 1)) <= 1000000);
        }
        int things = 0;
        for (int owner = 0; owner < x.about(0); owner++) things |= x.ofOwner(owner, 2);
        for (int thing = 0; thing < x.about(1); thing++) {
            boolean kept = x.of(thing, 3) == -1;
            Checks.yes("dear", x.of(thing, 0) >= 0 && x.of(thing, 0) <= 99);
            Checks.yes("bulk", x.of(thing, 1) >= 1 && x.of(thing, 1) <= 9);
            Checks.due("with one or kept", kept ? 0 : 1, things >> thing & 1);
            Checks.due("kept has its laws", kept ? 1 : 0, x.law(thing, 0) == -100000 ? 0 : 1);
            Checks.yes("since", kept ? x.of(thing, 4) >= 0 && x.of(thing, 4) <= x.about(3) : x.of(thing, 4) == -1);
            Checks.yes("from", kept ? x.of(thing, 5) >= 0 && x.of(thing, 5) < x.about(0) : x.of(thing, 5) == -1);
        }
    }
}
