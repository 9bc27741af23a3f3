import java.lang.reflect.InvocationTargetException;
import java.lang.reflect.Method;
import java.util.ArrayList;
import java.util.Arrays;
import java.util.HashMap;
import java.util.List;
import java.util.Map;
import java.util.function.Predicate;

/**
 * Runs of calls, the same ones each time, whose answers are compared with those of the Oracle: also what is
 * thrown, and after what was thrown all that can be asked of the tree.
 */
public final class RandomTest {
    private static final String[] CALLS = {
        "insertElement element spot name", "insertText element spot value", "insertAttribute element name value",
        "remove solid", "rename named name", "setValue valued value", "move solid element spot", "declare element space",
        "apply", "forget",
        "made", "nodes", "isThere node", "kind node", "name node", "value node", "parent node", "child node place",
        "space node", "number node", "numbered",
        "path", "step path axis test by", "place path comparison few", "last path", "has path lower bool",
        "worth path lower comparison value", "paths", "readAsReader bool", "found path node", "foundAnew path node",
        "foundAt path place", "ordered path place", "groups path",
        "nameType type typeName", "arc type state type state", "setFinal type state bool", "allowTexts type bool",
        "attribute type name what", "setStrict bool", "isValid", "types node", "infer path",
        "index name", "plan path", "view path", "viewed view place", "changed view",
        "ranked value place", "keep", "take version", "distance version version", "odds version version version",
        "hide path", "isSeen node"};

    /** For each mood, the calls that are more frequent in it, with how much so. */
    private static final String[] MOODS = {
        "insertElement 14 insertText 8 insertAttribute 6 move 8 remove 2 rename 3 setValue 2 declare 3 apply 24 number 4",
        "insertElement 8 insertText 6 insertAttribute 3 apply 8 path 8 step 14 place 5 last 2 has 5 worth 5 found 14 "
                + "foundAt 6 ordered 4 groups 4 foundAnew 3 plan 6 index 3 infer 2",
        "nameType 4 arc 14 setFinal 4 allowTexts 3 attribute 3 isValid 6 types 8 setStrict 3 insertElement 8 "
                + "insertText 2 insertAttribute 2 apply 8 path 4 step 10 infer 14 take 2 keep 1",
        "insertElement 8 insertText 6 insertAttribute 3 move 4 remove 2 rename 3 setValue 3 declare 2 apply 10 keep 2 "
                + "take 4 distance 6 odds 6 ranked 6 value 2",
        "insertElement 6 insertText 6 insertAttribute 2 move 3 remove 1 setValue 2 apply 8 path 6 step 8 place 2 has 2 "
                + "worth 3 hide 3 readAsReader 2 isSeen 8 found 8 foundAt 3 ordered 5 groups 4 view 1 viewed 6 "
                + "changed 6 keep 1 take 3"};

    private static final int NONE = -1;
    private static final Map<String, Method> OURS = methods(Treequery.class);
    private static final Map<String, Method> THEIRS = methods(Oracle.class);

    private final Treequery ours = new Treequery();
    private final Oracle theirs = new Oracle();
    private final List<String> told = new ArrayList<>();
    private final List<String> bag = new ArrayList<>();
    private long seed;

    private RandomTest(int run) {
        seed = run * 7919L + 17;
        String[] mood = MOODS[run % MOODS.length].split(" ");
        for (String call : CALLS) {
            bag.add(call);
            for (int i = 0; i < mood.length; i += 2) {
                if (call.split(" ")[0].equals(mood[i])) {
                    for (int more = 0; more < 3 * Integer.parseInt(mood[i + 1]); more++) {
                        bag.add(call);
                    }
                }
            }
        }
    }

    private static Map<String, Method> methods(Class<?> from) {
        Map<String, Method> methods = new HashMap<>();
        for (Method each : from.getDeclaredMethods()) {
            each.setAccessible(true);
            boolean isInts = Arrays.stream(each.getParameterTypes()).allMatch(Class::isPrimitive);
            for (String call : CALLS) {
                if (isInts && call.split(" ")[0].equals(each.getName()) && call.split(" ").length == each.getParameterCount() + 1) {
                    methods.put(each.getName(), each);
                }
            }
        }
        return methods;
    }

    private int next(int below) {
        seed = seed * 6364136223846793005L + 1442695040888963407L;
        return (int) ((seed >>> 33) % below);
    }

    private int near(int low, int high) {
        int odd = next(60);
        if (odd == 0) {
            return low - 1;
        }
        if (odd == 1) {
            return high + 1;
        }
        if (odd == 2) {
            return next(2) == 0 ? Integer.MAX_VALUE : Integer.MIN_VALUE;
        }
        return low + next(Math.max(1, high - low + 1));
    }

    /** Makes up an argument from those ahead of it. */
    private Object argument(String what, List<Integer> ahead) {
        int first = ahead.isEmpty() ? NONE : ahead.get(0);
        int last = ahead.isEmpty() ? NONE : ahead.get(ahead.size() - 1);
        switch (what) {
            case "element":
                return nodeOf(node -> node.kind == 0);
            case "named":
                return nodeOf(node -> node.kind != 1);
            case "valued":
                return nodeOf(node -> node.kind != 0);
            case "solid":
                return nodeOf(node -> node.parent != null && node.kind != 2);
            case "spot":
                Oracle.Node parent = theirs.node(last);
                return near(0, parent == null ? 1 : parent.children.size());
            case "node":
                if (next(8) == 0) {
                    return near(0, theirs.made);
                }
                List<Oracle.Node> order = theirs.order();
                return order.get(next(order.size())).id;
            case "place":
                return next(3) == 0 ? near(0, 9) : next(2) * next(3);
            case "name":
                return near(0, next(3) == 0 ? 2 : 7);
            case "typeName":
                return near(-1, next(3) == 0 ? 7 : 2);
            case "value":
                return next(3) == 0 ? near(0, 999) : near(0, 4);
            case "space":
                return near(-1, 3);
            case "path":
                return next(3) == 0 ? near(0, theirs.paths.size() - 1) : theirs.paths.size() - 1;
            case "lower":
                return near(0, first - 1);
            case "axis":
                return near(0, 12);
            case "test":
                return next(2) == 0 ? 8 : near(0, 13);
            case "by":
                return ahead.get(1) == 12 || next(30) == 0 ? near(0, first - 1) : NONE;
            case "comparison", "what":
                return near(0, 2);
            case "few":
                return next(5) == 0 ? near(0, 99) : near(1, 4);
            case "type":
                return next(2) == 0 ? near(0, 5) : near(0, 2);
            case "state":
                return next(2) == 0 ? near(0, 3) : 0;
            case "view":
                return near(0, theirs.views.size() - 1);
            case "version":
                return near(0, theirs.versions.size() - 1);
            default:
                return next(2) == 0;
        }
    }

    /** Mostly a node of those. */
    private int nodeOf(Predicate<Oracle.Node> isMeant) {
        List<Oracle.Node> nodes = new ArrayList<>(theirs.order());
        nodes.removeIf(isMeant.negate());
        return nodes.isEmpty() || next(12) == 0 ? (Integer) argument("node", List.of()) : nodes.get(next(nodes.size())).id;
    }

    private static Object answer(Method method, Object on, Object[] arguments) throws IllegalAccessException {
        try {
            return method.invoke(on, arguments);
        } catch (InvocationTargetException thrown) {
            return "throws " + thrown.getCause().getClass().getName();
        }
    }

    private boolean isRight(String name, Object... arguments) throws IllegalAccessException {
        Object got = answer(OURS.get(name), ours, arguments);
        Object want = answer(THEIRS.get(name), theirs, arguments);
        told.add(name + Arrays.toString(arguments) + " -> " + got);
        if (got.equals(want)) {
            return true;
        }
        told.add("due is " + want);
        return false;
    }

    /** Asks all that can be asked of the nodes without a change. */
    private boolean isSameTree() throws IllegalAccessException {
        int size = told.size();
        boolean isSame = isRight("made") && isRight("nodes") && isRight("numbered") && isRight("paths");
        for (Oracle.Node node : theirs.order()) {
            for (String each : List.of("kind", "name", "value", "parent", "space", "number", "types", "isSeen")) {
                isSame = isSame && isRight(each, node.id);
            }
            for (int place = 0; place <= node.children.size(); place++) {
                isSame = isSame && isRight("child", node.id, place);
            }
        }
        for (int view = 0; view < theirs.views.size(); view++) {
            isSame = isSame && isRight("changed", view) && isRight("viewed", view, 0);
        }
        while (isSame && told.size() > size) {
            told.remove(told.size() - 1);
        }
        return isSame;
    }

    private boolean isOneCallRight() throws IllegalAccessException {
        String[] call = bag.get(next(bag.size())).split(" ");
        if (call[0].equals("distance") && theirs.nodes() > 24) {
            return true;
        }
        Object[] arguments = new Object[call.length - 1];
        List<Integer> ahead = new ArrayList<>();
        for (int i = 0; i < arguments.length; i++) {
            arguments[i] = argument(call[i + 1], ahead);
            if (arguments[i] instanceof Integer) {
                ahead.add((Integer) arguments[i]);
            }
        }
        boolean isRight = true;
        if (call[0].equals("take") && next(4) > 0) {
            isRight = isRight("forget");
        }
        isRight = isRight && isRight(call[0], arguments);
        boolean hasThrown = told.get(told.size() - 1).contains("throws");
        isRight = isRight && (!hasThrown && next(12) > 0 || isSameTree());
        if (call[0].equals("apply") && hasThrown && next(4) > 0) {
            isRight = isRight && isRight("forget");
        }
        return isRight;
    }

    private boolean prepare(int mood) throws IllegalAccessException {
        boolean isRight = true;
        if (mood == 2) {
            for (int type = 0; type < 3; type++) {
                isRight = isRight && isRight("nameType", type, type == 0 ? 0 : next(3));
                isRight = isRight && isRight("allowTexts", type, next(2) == 0);
                isRight = isRight && isRight("attribute", type, next(3), 1 + next(2));
                isRight = isRight && isRight("arc", type, 0, next(3), 0) && isRight("arc", type, 0, next(3), next(4));
            }
        }
        return isRight;
    }

    private boolean isRunRight(int run, int calls) throws IllegalAccessException {
        boolean isRight = prepare(run % MOODS.length);
        for (int call = 0; call < calls && isRight; call++) {
            isRight = isOneCallRight();
        }
        if (!isRight) {
            System.out.println("run " + run + ":");
            told.forEach(System.out::println);
        }
        return isRight;
    }

    public static void main(String[] args) throws IllegalAccessException {
        int runs = args.length > 0 ? Integer.parseInt(args[0]) : 300;
        Map<String, int[]> counts = new HashMap<>();
        for (int run = 0; run < runs; run++) {
            RandomTest test = new RandomTest(run);
            boolean isRight = test.isRunRight(run, 400);
            Due.is("run " + run, true, isRight);
            for (String line : test.told) {
                int[] count = counts.computeIfAbsent(line.split("\\[")[0], key -> new int[2]);
                count[line.contains("throws") ? 1 : 0]++;
            }
            if (!isRight) {
                break;
            }
        }
        if (args.length > 1) {
            counts.forEach((name, count) -> System.out.println(name + " " + count[0] + " answers, " + count[1] + " throws"));
        }
        Due.end();
    }
}
