import java.lang.reflect.Field;
import java.lang.reflect.InvocationTargetException;
import java.lang.reflect.Method;
import java.lang.reflect.Modifier;
import java.util.ArrayList;
import java.util.HashMap;
import java.util.List;
import java.util.Map;

/**
 * Runs of calls, written as texts: one call behind the other, each ended by a semicolon or its line.
 *
 * "name(1, ANY) = 3" is a call and the answer that is due, without one any answer will do; "name(1) ! bounds"
 * is a call that throws (bounds, argument or state) and changes nothing: two objects are made by the calls ahead of
 * it, one of them is asked that call too, and then both have to answer alike all that Probe asks. "20 times name(1)"
 * is the call so often, and the answer the last one's. What several calls tell together is asked by the names of
 * Sample's lists: "children(0) = 1 2 3", "listed(path)", "order(path)", "viewedNodes(view)", "rank(word)"; and
 * "pathOf(CHILD, ANY) = 0" begins a path with that step.
 */
final class Runs {
    /** The tree of Sample. */
    static final String SAMPLE = """
            insertElement(0, 0, 1); insertElement(0, 0, 2); insertText(0, 0, 5); insertAttribute(0, 3, 7); apply() = 5
            insertElement(1, 0, 4); insertText(1, 0, 9); insertElement(2, 0, 1); insertText(2, 0, 5)
            insertAttribute(1, 2, 30); insertAttribute(1, 0, 20); apply() = 11
            """;

    /**
     * Something of everything upon that tree: the node 11 is gone, the paths 2 and 3 have views, the path 1 is
     * hidden, the path 4 is the last one and has a step with one condition, there are two versions and an index, and
     * the list has three updates.
     */
    static final String RICH = SAMPLE + """
            insertText(0, 3, 1); apply() = 12
            nameType(0, 0); nameType(1, 1); arc(0, 0, 1, 1); setFinal(0, 1, true); allowTexts(0, true)
            attribute(0, 3, ALLOWED)
            path() = 0
            path() = 1; step(1, DESCENDANT, 1, NONE)
            path() = 2; step(2, DESCENDANT, TEXTS, NONE)
            path() = 3; step(3, CHILD, ANY, NONE); place(3, LESS, 3)
            path() = 4; step(4, DESCENDANT, ANY, NONE); has(4, 2, true)
            index(1); view(2) = 0; view(3) = 1; hide(1) = true
            keep() = 0
            remove(11); rename(5, 2); apply() = 11
            keep() = 1
            insertText(0, 1, 3) = 1; rename(1, 5) = 2; move(6, 2, 0) = 3
            """;

    /** Nodes that are not there, of a tree as RICH makes it: the node 11 is gone. */
    static final String[] NO_NODES = {"-1", "11", "12", "59", "60", "64", "MAX", "MIN"};

    private static final Map<String, Method> METHODS = methods();
    private static final Map<String, Integer> NAMES = names();
    private static final Map<String, String> PROBED = new HashMap<>();

    private final String title;
    private final List<String> past = new ArrayList<>();
    private final Treequery x = new Treequery();

    private Runs(String title) {
        this.title = title;
    }

    private static Map<String, Method> methods() {
        Map<String, Method> methods = new HashMap<>();
        for (Method each : Treequery.class.getDeclaredMethods()) {
            if (Modifier.isPublic(each.getModifiers())) {
                methods.put(each.getName(), each);
            }
        }
        return methods;
    }

    private static Map<String, Integer> names() {
        Map<String, Integer> names = new HashMap<>(Map.of("MAX", Integer.MAX_VALUE, "MIN", Integer.MIN_VALUE));
        try {
            for (Field each : Treequery.class.getDeclaredFields()) {
                if (Modifier.isPublic(each.getModifiers())) {
                    names.put(each.getName(), each.getInt(null));
                }
            }
        } catch (IllegalAccessException hidden) {
            throw new IllegalStateException(hidden);
        }
        return names;
    }

    /** Makes one run on a new object; the title names the promise and what it says. */
    static void run(String title, String... texts) {
        Runs run = new Runs(title);
        for (String line : String.join("\n", texts).split("[\n;]")) {
            if (!line.isBlank()) {
                run.take(line.trim());
            }
        }
    }

    /** Refuses a call for each of some arguments, which are put where the call has a mark. */
    static void refused(String title, String ahead, String call, String exception, String... arguments) {
        StringBuilder calls = new StringBuilder(ahead);
        for (String each : arguments) {
            calls.append(call.replace("#", each)).append(" ! ").append(exception).append('\n');
        }
        run(title, calls.toString());
    }

    private void take(String line) {
        if (line.contains(" ! ")) {
            String[] parts = line.split(" ! ");
            refuse(parts[0].trim(), parts[1].trim());
            return;
        }
        String[] parts = line.split(" = ");
        String call = parts[0].trim();
        Object got = Due.answer(() -> answer(x, call));
        past.add(call);
        if (parts.length > 1) {
            Due.is(title + ": " + call, number(parts[1].trim()), got);
        } else if (String.valueOf(got).startsWith("throws")) {
            Due.is(title + ": " + call, "an answer", got);
        }
    }

    private static String number(String told) {
        Integer named = NAMES.get(told);
        return named == null ? told : named.toString();
    }

    private void refuse(String call, String exception) {
        String want = Map.of("bounds", Due.BOUNDS, "argument", Due.ARGUMENT, "state", Due.STATE).get(exception);
        Due.throwing(title + ": " + call, want, () -> answer(x, call));
        String ahead = String.join(";", past);
        String before = PROBED.computeIfAbsent(ahead, key -> Probe.all(() -> again(past)));
        String behind = Probe.all(() -> {
            Treequery y = again(past);
            Due.answer(() -> answer(y, call));
            return y;
        });
        Due.is(title + ": " + call + " changes nothing", "", firstOther(before, behind));
    }

    private static String firstOther(String before, String behind) {
        String[] lines = before.split("\n");
        String[] others = behind.split("\n");
        for (int i = 0; i < Math.min(lines.length, others.length); i++) {
            if (!lines[i].equals(others[i])) {
                return lines[i] + " became " + others[i];
            }
        }
        return lines.length == others.length ? "" : "more or fewer answers";
    }

    private static Treequery again(List<String> calls) {
        Treequery y = new Treequery();
        for (String call : calls) {
            Due.answer(() -> answer(y, call));
        }
        return y;
    }

    /** Makes a call, or as many as are told ahead of it; returns the last answer. */
    private static Object answer(Treequery on, String told) throws Exception {
        int times = told.contains(" times ") ? Integer.parseInt(told.substring(0, told.indexOf(' '))) : 1;
        String call = told.substring(told.indexOf(" times ") < 0 ? 0 : told.indexOf(" times ") + 7);
        Object last = null;
        for (int i = 0; i < times; i++) {
            last = answerOnce(on, call);
        }
        return last;
    }

    private static Object answerOnce(Treequery on, String call) throws Exception {
        String name = call.substring(0, call.indexOf('('));
        String inner = call.substring(call.indexOf('(') + 1, call.lastIndexOf(')')).trim();
        String[] told = inner.isEmpty() ? new String[0] : inner.split(", *");
        Object[] arguments = new Object[told.length];
        for (int i = 0; i < told.length; i++) {
            boolean isTruth = told[i].equals("true") || told[i].equals("false");
            arguments[i] = isTruth ? (Object) Boolean.valueOf(told[i]) : (Object) Integer.valueOf(number(told[i]));
        }
        switch (name) {
            case "pathOf":
                return pathOf(on, (Integer) arguments[0], (Integer) arguments[1]);
            case "children":
                return Sample.children(on, (Integer) arguments[0]).trim();
            case "listed":
                return Sample.found(on, (Integer) arguments[0]).trim();
            case "order":
                return Sample.ordered(on, (Integer) arguments[0]).trim();
            case "viewedNodes":
                return Sample.viewed(on, (Integer) arguments[0]).trim();
            case "rank":
                return Sample.rank(on, (Integer) arguments[0]).trim();
            default:
                return invoke(METHODS.get(name), on, arguments);
        }
    }

    private static int pathOf(Treequery on, int axis, int test) {
        int path = on.path();
        on.step(path, axis, test, Treequery.NONE);
        return path;
    }

    private static Object invoke(Method method, Treequery on, Object[] arguments) throws Exception {
        try {
            return method.invoke(on, arguments);
        } catch (InvocationTargetException thrown) {
            if (thrown.getCause() instanceof RuntimeException) {
                throw (RuntimeException) thrown.getCause();
            }
            throw thrown;
        }
    }
}
