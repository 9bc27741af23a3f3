import java.util.ArrayList;
import java.util.Collections;
import java.util.HashMap;
import java.util.HashSet;
import java.util.LinkedHashSet;
import java.util.List;
import java.util.Map;
import java.util.Objects;
import java.util.Set;
import java.util.TreeMap;
import java.util.TreeSet;

/**
 * The document told a second time, in another way: trees of objects, recursion and the Java library, with
 * nothing remembered between calls that could be found again. Its answers are what those of Treequery are
 * compared with.
 */
final class Oracle {
    static final int NONE = -1;

    static final class Node {
        final int id;
        final int kind;
        int name = NONE;
        int value = NONE;
        int declared = NONE;
        int number = NONE;
        Node parent = null;
        final List<Node> attributes = new ArrayList<>();
        final List<Node> children = new ArrayList<>();

        Node(int id, int kind, int name, int value) {
            this.id = id;
            this.kind = kind;
            this.name = name;
            this.value = value;
        }

        void addInOrder(List<Node> order) {
            order.add(this);
            List<Node> sorted = new ArrayList<>(attributes);
            sorted.sort((a, b) -> a.name - b.name);
            order.addAll(sorted);
            for (Node child : children) {
                child.addInOrder(order);
            }
        }

        boolean isBelow(Node other) {
            return parent != null && (parent == other || parent.isBelow(other));
        }

        int space() {
            if (kind != 0) {
                return NONE;
            }
            return declared != NONE ? declared : parent == null ? 0 : parent.space();
        }

        Node copy(Node newParent) {
            Node copy = new Node(id, kind, name, value);
            copy.declared = declared;
            copy.number = number;
            copy.parent = newParent;
            attributes.forEach(each -> copy.attributes.add(each.copy(copy)));
            children.forEach(each -> copy.children.add(each.copy(copy)));
            return copy;
        }
    }

    record Update(String what, int node, int parent, int place, int kind, int name, int value) {
    }

    record Condition(String what, int other, int comparison, int number) {
    }

    static final class Step {
        int axis;
        int test;
        int by;
        final List<Condition> conditions = new ArrayList<>();
    }

    static final class Path {
        final List<Step> steps = new ArrayList<>();
    }

    static final class View {
        int path;
        int changed;
    }

    Node root = new Node(0, 0, 0, NONE);
    int made = 1;
    int numbered = 0;
    final List<Update> list = new ArrayList<>();
    final List<Path> paths = new ArrayList<>();
    final List<View> views = new ArrayList<>();
    final List<Node> versions = new ArrayList<>();
    final Set<Integer> hidden = new TreeSet<>();
    final Set<Integer> indexes = new TreeSet<>();
    boolean isReader = false;
    boolean isStrict = false;
    final int[] typeNames = {-1, -1, -1, -1, -1, -1};
    final boolean[] typeTexts = new boolean[6];
    final int[][] typeRules = new int[6][8];
    final boolean[][] typeFinals = new boolean[6][4];
    final Set<List<Integer>> arcs = new HashSet<>();

    /** What was found among one set of seen nodes; each call makes such a set of its own. */
    private Set<Node> lastSeen = null;
    private Map<List<Integer>, List<Node>> lastFound = new HashMap<>();

    Oracle() {
        root.number = 16;
        for (boolean[] finals : typeFinals) {
            finals[0] = true;
        }
    }

    // ---- the order of the document

    List<Node> order() {
        return order(root);
    }

    static List<Node> order(Node top) {
        List<Node> order = new ArrayList<>();
        top.addInOrder(order);
        return order;
    }

    Node node(int id) {
        for (Node each : order()) {
            if (each.id == id) {
                return each;
            }
        }
        return null;
    }

    Node need(int id) {
        Node node = node(id);
        bounds(node != null);
        return node;
    }

    static void bounds(boolean isGood) {
        if (!isGood) {
            throw new IndexOutOfBoundsException();
        }
    }

    static void argument(boolean isGood) {
        if (!isGood) {
            throw new IllegalArgumentException();
        }
    }

    static void state(boolean isGood) {
        if (!isGood) {
            throw new IllegalStateException();
        }
    }

    static boolean in(int given, int low, int high) {
        return low <= given && given <= high;
    }

    // ---- updates

    int collect(Update update) {
        list.add(update);
        return list.size();
    }

    int insertElement(int parent, int place, int name) {
        bounds(in(place, 0, need(parent).children.size()));
        argument(in(name, 0, 7));
        state(node(parent).kind == 0 && list.size() < 20);
        return collect(new Update("insert", NONE, parent, place, 0, name, NONE));
    }

    int insertText(int parent, int place, int value) {
        bounds(in(place, 0, need(parent).children.size()));
        argument(in(value, 0, 999));
        state(node(parent).kind == 0 && list.size() < 20);
        return collect(new Update("insert", NONE, parent, place, 1, NONE, value));
    }

    int insertAttribute(int parent, int name, int value) {
        need(parent);
        argument(in(name, 0, 7) && in(value, 0, 999));
        state(node(parent).kind == 0 && list.size() < 20);
        return collect(new Update("insert", NONE, parent, NONE, 2, name, value));
    }

    int remove(int node) {
        need(node);
        state(node != 0 && list.size() < 20);
        return collect(new Update("remove", node, NONE, NONE, NONE, NONE, NONE));
    }

    int rename(int node, int name) {
        need(node);
        argument(in(name, 0, 7));
        state(node(node).kind != 1 && list.size() < 20);
        return collect(new Update("rename", node, NONE, NONE, NONE, name, NONE));
    }

    int setValue(int node, int value) {
        need(node);
        argument(in(value, 0, 999));
        state(node(node).kind != 0 && list.size() < 20);
        return collect(new Update("value", node, NONE, NONE, NONE, NONE, value));
    }

    int move(int node, int parent, int place) {
        need(node);
        bounds(in(place, 0, need(parent).children.size()));
        state(node != 0 && node(node).kind != 2 && node(parent).kind == 0 && list.size() < 20);
        return collect(new Update("move", node, parent, place, NONE, NONE, NONE));
    }

    int declare(int node, int space) {
        need(node);
        argument(in(space, -1, 3));
        state(node(node).kind == 0 && list.size() < 20);
        return collect(new Update("declare", node, NONE, NONE, NONE, NONE, space));
    }

    int apply() {
        for (int i = 0; i < list.size(); i++) {
            Update one = list.get(i);
            state(one.node == NONE || node(one.node) != null);
            state(one.parent == NONE || node(one.parent) != null);
            state(one.parent == NONE || one.place <= node(one.parent).children.size());
            for (int j = 0; j < list.size(); j++) {
                Update two = list.get(j);
                boolean isSameNode = one.node != NONE && one.node == two.node;
                boolean isSameKind = i != j && one.what.equals(two.what);
                state(!(isSameNode && isSameKind && Set.of("rename", "value", "declare", "move").contains(one.what)));
                state(!(isSameNode && one.what.equals("move") && two.what.equals("remove")));
            }
        }
        long inserted = list.stream().filter(each -> each.what.equals("insert")).count();
        state(made + inserted <= 60);

        Node top = root.copy(null);
        Map<Integer, Node> all = new TreeMap<>();
        order(top).forEach(each -> all.put(each.id, each));
        Set<Node> fresh = new HashSet<>();
        int next = doUpdates(all, fresh);
        for (Node each : all.values()) {
            Node climber = each;
            for (int i = 0; i < 100 && climber != null; i++) {
                climber = climber.parent;
            }
            state(climber == null);
        }
        for (Node each : order(top)) {
            Set<Integer> names = new HashSet<>();
            each.attributes.forEach(attribute -> state(names.add(attribute.name)));
        }
        state(!isStrict || typesOf(top).contains(0));
        if (!number(top, fresh)) {
            numberAnew(top);
            numbered++;
        }
        List<Set<Integer>> before = viewed();
        root = top;
        made = next;
        noteViews(before);
        list.clear();
        return order().size();
    }

    /** Returns the next number. */
    private int doUpdates(Map<Integer, Node> all, Set<Node> fresh) {
        int next = made;
        Map<Update, Node> news = new java.util.IdentityHashMap<>();
        Set<Node> leaving = new HashSet<>();
        Map<Node, List<Node>> olds = new HashMap<>();
        for (Node each : all.values()) {
            olds.put(each, new ArrayList<>(each.children));
        }
        Map<Integer, Node> added = new TreeMap<>();
        for (Update each : list) {
            Node node = all.get(each.node);
            switch (each.what) {
                case "insert" -> {
                    Node made = new Node(next++, each.kind, each.name, each.value);
                    news.put(each, made);
                    added.put(made.id, made);
                    fresh.add(made);
                }
                case "move" -> {
                    news.put(each, node);
                    leaving.add(node);
                    fresh.add(node);
                }
                case "remove" -> leaving.add(node);
                case "rename" -> node.name = each.name;
                case "value" -> node.value = each.value;
                default -> node.declared = each.value;
            }
        }
        for (Node each : leaving) {
            each.parent.attributes.remove(each);
        }
        for (Node each : leaving) {
            each.parent = null;
        }
        for (Map.Entry<Node, List<Node>> entry : olds.entrySet()) {
            Node element = entry.getKey();
            element.children.clear();
            for (int place = 0; place <= entry.getValue().size(); place++) {
                for (Update each : list) {
                    if (each.parent == element.id && each.place == place) {
                        element.children.add(news.get(each));
                        news.get(each).parent = element;
                    }
                }
                if (place < entry.getValue().size() && !leaving.contains(entry.getValue().get(place))) {
                    element.children.add(entry.getValue().get(place));
                }
            }
            for (Update each : list) {
                if (each.parent == element.id && each.kind == 2) {
                    element.attributes.add(news.get(each));
                    news.get(each).parent = element;
                }
            }
        }
        all.putAll(added);
        return next;
    }

    private static void numberAnew(Node top) {
        int number = 0;
        for (Node each : order(top)) {
            if (each.kind != 2) {
                number += 16;
                each.number = number;
            }
        }
    }

    private static boolean number(Node top, Set<Node> fresh) {
        List<Node> solids = new ArrayList<>();
        for (Node each : order(top)) {
            if (each.kind != 2) {
                solids.add(each);
            }
        }
        Map<Node, Integer> numbers = new HashMap<>();
        for (int at = 1; at < solids.size(); at++) {
            int end = at;
            while (end < solids.size() && isFresh(solids.get(end), fresh)) {
                end++;
            }
            int n = end - at;
            int a = solids.get(at - 1).number;
            for (int i = 1; i <= n; i++) {
                if (end == solids.size()) {
                    numbers.put(solids.get(at + i - 1), a + 16 * i);
                } else {
                    int b = solids.get(end).number;
                    if (b - a <= n) {
                        return false;
                    }
                    numbers.put(solids.get(at + i - 1), a + (i * (b - a)) / (n + 1));
                }
            }
            at = end;
        }
        numbers.forEach((node, number) -> node.number = number);
        return true;
    }

    private static boolean isFresh(Node node, Set<Node> fresh) {
        return node != null && (fresh.contains(node) || isFresh(node.parent, fresh));
    }

    private List<Set<Integer>> viewed() {
        List<Set<Integer>> sets = new ArrayList<>();
        for (View each : views) {
            Set<Integer> set = new HashSet<>();
            find(each.path, root, new HashSet<>(order())).forEach(node -> set.add(node.id));
            sets.add(set);
        }
        return sets;
    }

    private void noteViews(List<Set<Integer>> before) {
        List<Set<Integer>> after = viewed();
        for (int i = 0; i < views.size(); i++) {
            int count = 0;
            for (int id = 0; id < 60; id++) {
                count += before.get(i).contains(id) != after.get(i).contains(id) ? 1 : 0;
            }
            views.get(i).changed = count;
        }
    }

    int forget() {
        int had = list.size();
        list.clear();
        return had;
    }

    // ---- the tree

    int made() {
        return made;
    }

    int nodes() {
        return order().size();
    }

    boolean isThere(int node) {
        return node(node) != null;
    }

    int kind(int node) {
        return need(node).kind;
    }

    int name(int node) {
        return need(node).name;
    }

    int value(int node) {
        return valueOf(need(node), new HashSet<>(order()));
    }

    int valueOf(Node node, Set<Node> seen) {
        if (node.kind != 0) {
            return node.value;
        }
        for (Node each : order()) {
            if (each.kind == 1 && each.isBelow(node) && seen.contains(each)) {
                return each.value;
            }
        }
        return NONE;
    }

    int parent(int node) {
        return need(node).parent == null ? NONE : node(node).parent.id;
    }

    int child(int node, int place) {
        need(node);
        bounds(place >= 0);
        return place < node(node).children.size() ? node(node).children.get(place).id : NONE;
    }

    int space(int node) {
        return need(node).space();
    }

    int number(int node) {
        return need(node).number;
    }

    int numbered() {
        return numbered;
    }

    // ---- paths

    int path() {
        state(paths.size() < 20);
        paths.add(new Path());
        return paths.size() - 1;
    }

    private boolean isOpen(int path) {
        return path == paths.size() - 1 && views.stream().noneMatch(view -> view.path == path);
    }

    private Step openStep(int path) {
        List<Step> steps = paths.get(path).steps;
        state(!steps.isEmpty() && steps.get(steps.size() - 1).conditions.size() < 2 && isOpen(path));
        return steps.get(steps.size() - 1);
    }

    private int addCondition(int path, Condition condition) {
        Step step = openStep(path);
        step.conditions.add(condition);
        return step.conditions.size();
    }

    int step(int path, int axis, int test, int by) {
        bounds(in(path, 0, paths.size() - 1));
        bounds(axis != 12 || in(by, 0, path - 1));
        argument(in(axis, 0, 12) && in(test, 0, 13) && (axis == 12 || by == NONE));
        state(paths.get(path).steps.size() < 5 && isOpen(path));
        Step step = new Step();
        step.axis = axis;
        step.test = test;
        step.by = by;
        paths.get(path).steps.add(step);
        return paths.get(path).steps.size();
    }

    int place(int path, int comparison, int number) {
        bounds(in(path, 0, paths.size() - 1));
        argument(in(comparison, 0, 2) && in(number, 0, 99));
        return addCondition(path, new Condition("place", NONE, comparison, number));
    }

    int last(int path) {
        bounds(in(path, 0, paths.size() - 1));
        return addCondition(path, new Condition("last", NONE, NONE, NONE));
    }

    int has(int path, int other, boolean isHas) {
        bounds(in(path, 0, paths.size() - 1) && in(other, 0, path - 1));
        return addCondition(path, new Condition(isHas ? "has" : "lacks", other, NONE, NONE));
    }

    int worth(int path, int other, int comparison, int number) {
        bounds(in(path, 0, paths.size() - 1) && in(other, 0, path - 1));
        argument(in(comparison, 0, 2) && in(number, 0, 999));
        return addCondition(path, new Condition("worth", other, comparison, number));
    }

    int paths() {
        return paths.size();
    }

    boolean readAsReader(boolean on) {
        boolean was = isReader;
        isReader = on;
        return was;
    }

    /** What a path finds from a node among those that are seen, in the order of the document. */
    List<Node> find(int path, Node from, Set<Node> seen) {
        if (seen != lastSeen) {
            lastSeen = seen;
            lastFound = new HashMap<>();
        }
        List<Integer> key = List.of(path, from.id);
        List<Node> known = lastFound.get(key);
        if (known == null) {
            known = findOut(path, from, seen);
            lastFound.put(key, known);
        }
        return new ArrayList<>(known);
    }

    private List<Node> findOut(int path, Node from, Set<Node> seen) {
        Set<Node> now = new HashSet<>();
        now.add(from);
        for (Step step : paths.get(path).steps) {
            Set<Node> then = new HashSet<>();
            for (Node each : now) {
                then.addAll(findStep(step, each, seen));
            }
            now = then;
        }
        List<Node> sorted = order();
        sorted.retainAll(now);
        return sorted;
    }

    private List<Node> findStep(Step step, Node from, Set<Node> seen) {
        List<Node> found = new ArrayList<>();
        Set<Node> repeated = step.axis == 12 ? repeat(step.by, from, seen) : Set.of();
        List<Node> order = order();
        int at = order.indexOf(from);
        for (int i = 0; i < order.size(); i++) {
            Node each = order.get(i);
            boolean isOn = step.axis == 12 ? repeated.contains(each) : isOnAxis(step.axis, from, each, i - at);
            if (isOn && seen.contains(each) && passes(step.test, each)) {
                found.add(each);
            }
        }
        boolean isBack = Set.of(2, 5, 6, 8, 10).contains(step.axis);
        for (Condition condition : step.conditions) {
            if (isBack) {
                Collections.reverse(found);
            }
            List<Node> kept = new ArrayList<>();
            for (int i = 0; i < found.size(); i++) {
                if (isTrue(condition, found.get(i), i + 1, found.size(), seen)) {
                    kept.add(found.get(i));
                }
            }
            if (isBack) {
                Collections.reverse(kept);
            }
            found = kept;
        }
        return found;
    }

    private Set<Node> repeat(int path, Node from, Set<Node> seen) {
        Set<Node> found = new LinkedHashSet<>(find(path, from, seen));
        List<Node> waiting = new ArrayList<>(found);
        while (!waiting.isEmpty()) {
            for (Node each : find(path, waiting.remove(0), seen)) {
                if (found.add(each)) {
                    waiting.add(each);
                }
            }
        }
        return found;
    }

    private static boolean isOnAxis(int axis, Node from, Node to, int distance) {
        boolean isBehind = distance > 0;
        boolean isAhead = distance < 0;
        boolean isSibling = from.kind != 2 && to.kind != 2 && from.parent != null && to.parent == from.parent;
        return switch (axis) {
            case 0 -> to == from;
            case 1 -> to.kind != 2 && to.parent == from;
            case 2 -> from.parent == to;
            case 3 -> to.kind != 2 && to.isBelow(from);
            case 4 -> to == from || to.kind != 2 && to.isBelow(from);
            case 5 -> from.isBelow(to);
            case 6 -> to == from || from.isBelow(to);
            case 7 -> to.kind != 2 && isBehind && !to.isBelow(from);
            case 8 -> to.kind != 2 && isAhead && !from.isBelow(to);
            case 9 -> isSibling && isBehind;
            case 10 -> isSibling && isAhead;
            default -> to.kind == 2 && to.parent == from;
        };
    }

    private static boolean passes(int test, Node node) {
        if (test < 8) {
            return node.kind != 1 && node.name == test;
        }
        return test == 8 || test == 9 && node.kind == 1 || test >= 10 && node.kind == 0 && node.space() == test - 10;
    }

    private static boolean compares(int given, int comparison, int number) {
        return comparison == 0 ? given == number : comparison == 1 ? given < number : given > number;
    }

    private boolean isTrue(Condition condition, Node node, int place, int size, Set<Node> seen) {
        switch (condition.what) {
            case "place":
                return compares(place, condition.comparison, condition.number);
            case "last":
                return place == size;
            case "has":
                return !find(condition.other, node, seen).isEmpty();
            case "lacks":
                return find(condition.other, node, seen).isEmpty();
            default:
                for (Node each : find(condition.other, node, seen)) {
                    int value = valueOf(each, seen);
                    if (value != NONE && compares(value, condition.comparison, condition.number)) {
                        return true;
                    }
                }
                return false;
        }
    }

    private Set<Node> seenByReader() {
        Set<Node> everything = new HashSet<>(order());
        Set<Node> away = new HashSet<>();
        for (int path : hidden) {
            for (Node each : find(path, root, everything)) {
                for (Node other : order()) {
                    if (each != root && (other == each || other.isBelow(each))) {
                        away.add(other);
                    }
                }
            }
        }
        Set<Node> left = new HashSet<>(everything);
        left.removeAll(away);
        return left;
    }

    private Set<Node> seen() {
        return isReader ? seenByReader() : new HashSet<>(order());
    }

    int found(int path, int from) {
        bounds(in(path, 0, paths.size() - 1));
        bounds(seen().contains(need(from)));
        return find(path, node(from), seen()).size();
    }

    int foundAnew(int path, int from) {
        return found(path, from);
    }

    int foundAt(int path, int place) {
        bounds(in(path, 0, paths.size() - 1));
        List<Node> found = find(path, root, seen());
        bounds(in(place, 0, found.size() - 1));
        return found.get(place).id;
    }

    int ordered(int path, int place) {
        bounds(in(path, 0, paths.size() - 1));
        Set<Node> seen = seen();
        List<Node> found = find(path, root, seen);
        bounds(in(place, 0, found.size() - 1));
        found.sort((a, b) -> valueOf(a, seen) - valueOf(b, seen));
        return found.get(place).id;
    }

    int groups(int path) {
        bounds(in(path, 0, paths.size() - 1));
        Set<Node> seen = seen();
        Set<Integer> values = new HashSet<>();
        find(path, root, seen).forEach(each -> values.add(valueOf(each, seen)));
        return values.size();
    }

    // ---- schemas

    int nameType(int type, int name) {
        bounds(in(type, 0, 5));
        argument(in(name, -1, 7));
        state(!isStrict);
        int was = typeNames[type];
        typeNames[type] = name;
        return was;
    }

    boolean arc(int type, int from, int by, int to) {
        bounds(in(type, 0, 5) && in(from, 0, 3) && in(by, 0, 5) && in(to, 0, 3));
        state(!isStrict);
        List<Integer> arc = List.of(type, from, by, to);
        if (!arcs.remove(arc)) {
            arcs.add(arc);
        }
        return arcs.contains(arc);
    }

    boolean setFinal(int type, int state, boolean isFinal) {
        bounds(in(type, 0, 5) && in(state, 0, 3));
        state(!isStrict);
        boolean was = typeFinals[type][state];
        typeFinals[type][state] = isFinal;
        return was;
    }

    boolean allowTexts(int type, boolean on) {
        bounds(in(type, 0, 5));
        state(!isStrict);
        boolean was = typeTexts[type];
        typeTexts[type] = on;
        return was;
    }

    int attribute(int type, int name, int what) {
        bounds(in(type, 0, 5));
        argument(in(name, 0, 7) && in(what, 0, 2));
        state(!isStrict);
        int was = typeRules[type][name];
        typeRules[type][name] = what;
        return was;
    }

    boolean setStrict(boolean on) {
        state(!on || isValid());
        boolean was = isStrict;
        isStrict = on;
        return was;
    }

    boolean isValid() {
        return typesOf(root).contains(0);
    }

    int types(int node) {
        int set = 0;
        for (int type : typesOf(need(node))) {
            set += 1 << type;
        }
        return set;
    }

    private Set<Integer> typesOf(Node node) {
        Set<Integer> types = new TreeSet<>();
        for (int type = 0; type < 6; type++) {
            if (node.kind == 0 && isOf(node, type)) {
                types.add(type);
            }
        }
        return types;
    }

    private boolean isOf(Node node, int type) {
        if (typeNames[type] != node.name) {
            return false;
        }
        List<Set<Integer>> below = new ArrayList<>();
        for (Node child : node.children) {
            if (child.kind == 1 && !typeTexts[type]) {
                return false;
            }
            if (child.kind == 0) {
                below.add(typesOf(child));
            }
        }
        for (int name = 0; name < 8; name++) {
            int wanted = name;
            boolean isOn = node.attributes.stream().anyMatch(each -> each.name == wanted);
            if (isOn && typeRules[type][name] == 0 || !isOn && typeRules[type][name] == 2) {
                return false;
            }
        }
        return leads(type, 0, below);
    }

    private boolean leads(int type, int state, List<Set<Integer>> left) {
        if (left.isEmpty()) {
            return typeFinals[type][state];
        }
        for (int by : left.get(0)) {
            for (int to = 0; to < 4; to++) {
                if (arcs.contains(List.of(type, state, by, to)) && leads(type, to, left.subList(1, left.size()))) {
                    return true;
                }
            }
        }
        return false;
    }

    /** What a type can have: types by their numbers, 6 for texts, 7 for attributes. */
    private Set<Integer> canHave(int type) {
        Set<Integer> set = new TreeSet<>();
        if (type > 5) {
            return set;
        }
        for (List<Integer> arc : arcs) {
            if (arc.get(0) == type) {
                set.add(arc.get(2));
            }
        }
        if (typeTexts[type]) {
            set.add(6);
        }
        for (int rule : typeRules[type]) {
            if (rule != 0) {
                set.add(7);
            }
        }
        return set;
    }

    private Set<Integer> allItems() {
        Set<Integer> all = new TreeSet<>(Set.of(0));
        for (int round = 0; round < 10; round++) {
            for (int type : new ArrayList<>(all)) {
                all.addAll(canHave(type));
            }
        }
        return all;
    }

    int infer(int path) {
        bounds(in(path, 0, paths.size() - 1));
        int set = 0;
        for (int item : told(path, Set.of(0))) {
            set += 1 << item;
        }
        return set;
    }

    private Set<Integer> told(int path, Set<Integer> from) {
        Set<Integer> now = from;
        for (Step step : paths.get(path).steps) {
            Set<Integer> then = new TreeSet<>();
            for (int item : now.isEmpty() ? now : toldAxis(step, now)) {
                boolean isLeft = step.test < 8 ? item == 7 || item < 6 && typeNames[item] == step.test
                        : step.test == 8 || step.test == 9 && item == 6 || step.test > 9 && item < 6;
                if (isLeft) {
                    then.add(item);
                }
            }
            now = then;
        }
        return now;
    }

    private Set<Integer> toldChildren(Set<Integer> from) {
        Set<Integer> set = new TreeSet<>();
        from.forEach(item -> set.addAll(canHave(item)));
        set.remove(7);
        return set;
    }

    private Set<Integer> toldParents(Set<Integer> from) {
        Set<Integer> set = new TreeSet<>();
        for (int type : allItems()) {
            if (!Collections.disjoint(canHave(type), from)) {
                set.add(type);
            }
        }
        return set;
    }

    private Set<Integer> toldAxis(Step step, Set<Integer> from) {
        Set<Integer> set = new TreeSet<>();
        Set<Integer> now = from;
        switch (step.axis) {
            case 0:
                return from;
            case 1:
                return toldChildren(from);
            case 2:
                return toldParents(from);
            case 3, 4, 5, 6, 12:
                for (int round = 0; round < 10; round++) {
                    now = step.axis == 12 ? told(step.by, now) : step.axis < 5 ? toldChildren(now) : toldParents(now);
                    set.addAll(now);
                    now = new TreeSet<>(set);
                }
                if (step.axis == 4 || step.axis == 6) {
                    set.addAll(from);
                }
                return set;
            case 7, 8:
                set.addAll(allItems());
                set.remove(7);
                return set;
            case 9, 10:
                return toldChildren(toldParents(from));
            default:
                for (int item : from) {
                    if (canHave(item).contains(7)) {
                        set.add(7);
                    }
                }
                return set;
        }
    }

    // ---- indexes, plans, views

    boolean index(int name) {
        argument(in(name, 0, 7));
        if (!indexes.remove(name)) {
            indexes.add(name);
        }
        return indexes.contains(name);
    }

    int plan(int path) {
        bounds(in(path, 0, paths.size() - 1));
        int solids = (int) order().stream().filter(each -> each.kind != 2).count();
        List<Step> steps = paths.get(path).steps;
        if (!steps.isEmpty() && steps.get(0).axis == 3 && indexes.contains(steps.get(0).test)) {
            int test = steps.get(0).test;
            int named = (int) order().stream().filter(each -> each.kind == 0 && each.name == test).count();
            if (named < solids) {
                return 1000 + named;
            }
        }
        boolean isStream = true;
        for (Step step : steps) {
            isStream &= Set.of(0, 1, 3, 4, 11).contains(step.axis);
            for (Condition condition : step.conditions) {
                isStream &= switch (condition.what) {
                    case "place" -> condition.comparison != 2;
                    case "last" -> false;
                    default -> paths.get(condition.other).steps.stream().allMatch(
                            each -> Set.of(0, 11).contains(each.axis) && each.conditions.isEmpty());
                };
            }
        }
        return (isStream ? 2000 : 0) + solids;
    }

    int view(int path) {
        bounds(in(path, 0, paths.size() - 1));
        state(views.size() < 5);
        View view = new View();
        view.path = path;
        views.add(view);
        return views.size() - 1;
    }

    int viewed(int view, int place) {
        bounds(in(view, 0, views.size() - 1) && place >= 0);
        List<Node> found = find(views.get(view).path, root, new HashSet<>(order()));
        return place < found.size() ? found.get(place).id : NONE;
    }

    int changed(int view) {
        bounds(in(view, 0, views.size() - 1));
        return views.get(view).changed;
    }

    // ---- words, versions, readers

    int ranked(int word, int place) {
        bounds(place >= 0);
        argument(in(word, 0, 999));
        Map<Node, int[]> counts = new HashMap<>();
        List<Node> elements = new ArrayList<>();
        for (Node each : order()) {
            int[] count = new int[2];
            for (Node other : order()) {
                if (other.kind == 1 && other.isBelow(each)) {
                    count[0] += other.value == word ? 1 : 0;
                    count[1]++;
                }
            }
            if (each.kind == 0 && count[0] > 0) {
                elements.add(each);
                counts.put(each, count);
            }
        }
        elements.sort((a, b) -> counts.get(b)[0] * counts.get(a)[1] - counts.get(a)[0] * counts.get(b)[1]);
        return place < elements.size() ? elements.get(place).id : NONE;
    }

    int keep() {
        state(versions.size() < 6);
        versions.add(root.copy(null));
        return versions.size() - 1;
    }

    int take(int version) {
        bounds(in(version, 0, versions.size() - 1));
        state(list.isEmpty());
        state(!isStrict || typesOf(versions.get(version)).contains(0));
        List<Set<Integer>> before = viewed();
        root = versions.get(version).copy(null);
        numberAnew(root);
        noteViews(before);
        return order().size();
    }

    int distance(int version, int other) {
        bounds(in(version, 0, versions.size() - 1) && in(other, 0, versions.size() - 1));
        return edits(List.of(versions.get(version)), List.of(versions.get(other)), new HashMap<>());
    }

    private static int size(List<Node> forest) {
        int size = 0;
        for (Node each : forest) {
            size += order(each).size();
        }
        return size;
    }

    private static List<Node> inner(Node node) {
        List<Node> inner = new ArrayList<>(node.attributes);
        inner.sort((a, b) -> a.name - b.name);
        inner.addAll(node.children);
        return inner;
    }

    /** The fewest edits of one forest into another one, by what becomes of the last roots. */
    private static int edits(List<Node> from, List<Node> to, Map<List<List<Node>>, Integer> known) {
        if (from.isEmpty() || to.isEmpty()) {
            return size(from) + size(to);
        }
        List<List<Node>> key = List.of(from, to);
        Integer answer = known.get(key);
        if (answer != null) {
            return answer;
        }
        Node a = from.get(from.size() - 1);
        Node b = to.get(to.size() - 1);
        List<Node> fromLess = new ArrayList<>(from.subList(0, from.size() - 1));
        List<Node> toLess = new ArrayList<>(to.subList(0, to.size() - 1));
        boolean isSame = a.kind == b.kind && a.name == b.name && a.value == b.value && a.declared == b.declared;
        int fewest = edits(fromLess, toLess, known) + edits(inner(a), inner(b), known) + (isSame ? 0 : 1);
        List<Node> fromOpen = new ArrayList<>(fromLess);
        fromOpen.addAll(inner(a));
        List<Node> toOpen = new ArrayList<>(toLess);
        toOpen.addAll(inner(b));
        fewest = Math.min(fewest, edits(fromOpen, to, known) + 1);
        fewest = Math.min(fewest, edits(from, toOpen, known) + 1);
        known.put(key, fewest);
        return fewest;
    }

    private static Object[] told(Node top, int id) {
        for (Node each : order(top)) {
            if (each.id == id) {
                return new Object[] {each.parent == null ? NONE : each.parent.id, each.name, each.value, each.declared};
            }
        }
        return null;
    }

    int odds(int base, int ours, int theirs) {
        bounds(in(base, 0, versions.size() - 1) && in(ours, 0, versions.size() - 1) && in(theirs, 0, versions.size() - 1));
        int count = 0;
        for (int id = 0; id < 60; id++) {
            Object[] a = told(versions.get(base), id);
            Object[] b = told(versions.get(ours), id);
            Object[] c = told(versions.get(theirs), id);
            if (!Objects.deepEquals(a, b) && !Objects.deepEquals(b, c) && !Objects.deepEquals(a, c)) {
                count++;
            }
        }
        return count;
    }

    boolean hide(int path) {
        bounds(in(path, 0, paths.size() - 1));
        state(hidden.contains(path) || hidden.size() < 3);
        if (!hidden.remove(path)) {
            hidden.add(path);
        }
        return hidden.contains(path);
    }

    boolean isSeen(int node) {
        return seenByReader().contains(need(node));
    }
}
