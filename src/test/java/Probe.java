import java.util.List;
import java.util.concurrent.Callable;
import java.util.function.Function;
import java.util.function.Supplier;

/**
 * Asks all that an object can tell, also by calls that change it: each part is asked of an object of its own, made
 * anew, and none is asked more calls than the document allows it.
 */
final class Probe {
    private static final int NONE = Treequery.NONE;

    private static final List<Function<Treequery, String>> PARTS = List.of(
            Probe::nodes, Probe::places, Probe::list, Probe::whatIsDone, Probe::paths, Probe::lastPath, Probe::types,
            x -> arcs(x, 0), x -> arcs(x, 3), Probe::strictness, Probe::indexes, Probe::views, Probe::versions,
            Probe::taken, Probe::hidden, Probe::reader);

    private Probe() {
    }

    static String all(Supplier<Treequery> maker) {
        StringBuilder told = new StringBuilder();
        for (Function<Treequery, String> part : PARTS) {
            told.append(part.apply(maker.get())).append('\n');
        }
        return told.toString();
    }

    private static void add(StringBuilder told, String call, Callable<?> answer) {
        told.append(call).append(' ').append(Due.answer(answer)).append('\n');
    }

    private static String nodes(Treequery x) {
        StringBuilder told = new StringBuilder();
        add(told, "made", x::made);
        add(told, "nodes", x::nodes);
        add(told, "numbered", x::numbered);
        for (int each = 0; each < 60; each++) {
            int node = each;
            if (x.isThere(node)) {
                add(told, "kind " + node, () -> x.kind(node));
                add(told, "name " + node, () -> x.name(node));
                add(told, "value " + node, () -> x.value(node));
                add(told, "space " + node, () -> x.space(node));
                add(told, "number " + node, () -> x.number(node));
                add(told, "types " + node, () -> x.types(node));
            }
        }
        add(told, "isValid", x::isValid);
        return told.toString();
    }

    private static String places(Treequery x) {
        StringBuilder told = new StringBuilder();
        for (int each = 0; each < 60; each++) {
            int node = each;
            if (x.isThere(node)) {
                add(told, "parent " + node, () -> x.parent(node));
                add(told, "children " + node, () -> Sample.children(x, node));
                add(told, "isSeen " + node, () -> x.isSeen(node));
            }
        }
        return told.toString();
    }

    private static String list(Treequery x) {
        StringBuilder told = new StringBuilder();
        add(told, "updates", x::forget);
        return told.toString();
    }

    private static String whatIsDone(Treequery x) {
        StringBuilder told = new StringBuilder();
        add(told, "apply", x::apply);
        return told + nodes(x) + views(x);
    }

    private static String paths(Treequery x) {
        StringBuilder told = new StringBuilder();
        add(told, "paths", x::paths);
        for (int each = 0; each < x.paths(); each++) {
            int path = each;
            add(told, "plan " + path, () -> x.plan(path));
            add(told, "infer " + path, () -> x.infer(path));
            add(told, "found " + path, () -> x.found(path, 0));
            add(told, "first of " + path, () -> x.foundAt(path, 0));
            add(told, "ordered of " + path, () -> x.ordered(path, 0));
            add(told, "groups " + path, () -> x.groups(path));
        }
        return told.toString();
    }

    /** How many steps and conditions the last path has: that is told by adding more of them. */
    private static String lastPath(Treequery x) {
        StringBuilder told = new StringBuilder();
        int path = x.paths() - 1;
        add(told, "conditions", () -> x.place(path, Treequery.GREATER, 0));
        for (int i = 0; i < 6; i++) {
            add(told, "steps", () -> x.step(path, Treequery.SELF, Treequery.ANY, NONE));
        }
        add(told, "path", x::path);
        return told.toString();
    }

    private static String types(Treequery x) {
        StringBuilder told = new StringBuilder();
        x.setStrict(false);
        for (int each = 0; each < 6; each++) {
            int type = each;
            add(told, "nameType " + type, () -> x.nameType(type, NONE));
            add(told, "allowTexts " + type, () -> x.allowTexts(type, true));
            for (int i = 0; i < 8; i++) {
                int name = i;
                add(told, "attribute " + type + " " + name, () -> x.attribute(type, name, Treequery.BARRED));
            }
            for (int i = 0; i < 4; i++) {
                int state = i;
                add(told, "setFinal " + type + " " + state, () -> x.setFinal(type, state, true));
            }
        }
        return told.toString();
    }

    private static String arcs(Treequery x, int first) {
        StringBuilder told = new StringBuilder();
        x.setStrict(false);
        for (int type = first; type < first + 3; type++) {
            for (int i = 0; i < 96; i++) {
                told.append(x.arc(type, i / 24, i / 4 % 6, i % 4) ? '0' : '1');
            }
        }
        return told.toString();
    }

    private static String strictness(Treequery x) {
        StringBuilder told = new StringBuilder();
        add(told, "setStrict", () -> x.setStrict(false));
        return told.toString();
    }

    private static String indexes(Treequery x) {
        StringBuilder told = new StringBuilder();
        for (int i = 0; i < 8; i++) {
            int name = i;
            add(told, "index " + name, () -> x.index(name));
        }
        return told.toString();
    }

    private static String views(Treequery x) {
        StringBuilder told = new StringBuilder();
        for (int each = 0; each < 5; each++) {
            int view = each;
            add(told, "changed " + view, () -> x.changed(view));
            add(told, "viewed " + view, () -> Sample.viewed(x, view));
        }
        add(told, "path", x::path);
        add(told, "view", () -> x.view(0));
        return told.toString();
    }

    private static String versions(Treequery x) {
        StringBuilder told = new StringBuilder();
        for (int each = 0; each < 6; each++) {
            int version = each;
            add(told, "distance " + version, () -> x.distance(0, version));
            add(told, "odds " + version, () -> x.odds(0, version, 1));
        }
        add(told, "keep", x::keep);
        return told.toString();
    }

    private static String taken(Treequery x) {
        StringBuilder told = new StringBuilder();
        x.forget();
        for (int each = 0; each < 6; each++) {
            int version = each;
            add(told, "take " + version, () -> x.take(version));
            add(told, "first child " + version, () -> x.child(0, 0));
            add(told, "made " + version, x::made);
        }
        return told.toString();
    }

    private static String hidden(Treequery x) {
        StringBuilder told = new StringBuilder();
        for (int each = 0; each < x.paths(); each++) {
            int path = each;
            add(told, "hide " + path, () -> x.hide(path));
        }
        return told.toString();
    }

    private static String reader(Treequery x) {
        StringBuilder told = new StringBuilder();
        add(told, "readAsReader", () -> x.readAsReader(true));
        return told + paths(x);
    }
}
