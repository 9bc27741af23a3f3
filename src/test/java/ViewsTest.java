/** Promises 45 to 49: indexes, plans and views. */
public final class ViewsTest {
    private static final int NONE = Treequery.NONE;
    private static final int ANY = Treequery.ANY;

    public static void main(String[] args) {
        index();
        planByIndex();
        planByStream();
        planByConditions();
        views();
        changes();
        changesByVersions();
        viewsOfAll();
        Due.end();
    }

    private static void index() {
        Treequery x = Sample.tree();
        Due.is("made", true, x.index(7));
        Due.is("made", true, x.index(0));
        Due.is("dropped", false, x.index(7));
        Due.is("made again", true, x.index(7));
        Due.throwing("index 8", Due.ARGUMENT, () -> x.index(8));
        Due.throwing("index -1", Due.ARGUMENT, () -> x.index(-1));
        Due.throwing("index far away", Due.ARGUMENT, () -> x.index(64));
        Due.is("dropped", false, x.index(0));
    }

    private static void planByIndex() {
        Treequery x = Sample.tree();
        int ones = Sample.path(x, Treequery.DESCENDANT, 1);
        int none = Sample.path(x, Treequery.DESCENDANT, 6);
        int all = Sample.path(x, Treequery.DESCENDANT, ANY);
        int spaces = Sample.path(x, Treequery.DESCENDANT, Treequery.SPACE);
        int selves = Sample.path(x, Treequery.DESCENDANT_OR_SELF, 1);
        int second = x.path();
        x.step(second, Treequery.CHILD, ANY, NONE);
        x.step(second, Treequery.DESCENDANT, 1, NONE);
        int threes = Sample.path(x, Treequery.DESCENDANT, 3);
        int roots = Sample.path(x, Treequery.DESCENDANT, 0);
        Due.is("without an index", 2008, x.plan(ones));
        for (int name = 0; name < 8; name++) {
            x.index(name);
        }
        Due.is("elements with the name", 1002, x.plan(ones));
        Due.is("no such element", 1000, x.plan(none));
        Due.is("any name", 2008, x.plan(all));
        Due.is("a space", 2008, x.plan(spaces));
        Due.is("another axis", 2008, x.plan(selves));
        Due.is("the first step counts", 2008, x.plan(second));
        Due.is("attributes do not count", 1000, x.plan(threes));
        Due.is("the root counts", 1001, x.plan(roots));
        x.index(1);
        Due.is("the index is dropped", 2008, x.plan(ones));
        Treequery y = new Treequery();
        int path = Sample.path(y, Treequery.DESCENDANT, 0);
        y.index(0);
        Due.is("all have the name", 2001, y.plan(path));
        y.insertElement(0, 0, 0);
        y.apply();
        Due.is("still all", 2002, y.plan(path));
        y.insertText(0, 0, 1);
        y.apply();
        Due.is("one has not", 1002, y.plan(path));
        Due.throwing("plan of no path", Due.BOUNDS, () -> y.plan(1));
        Due.throwing("plan of path -1", Due.BOUNDS, () -> y.plan(-1));
    }

    private static void planByStream() {
        Treequery x = Sample.tree();
        int empty = x.path();
        Due.is("without steps", 2008, x.plan(empty));
        for (int axis = 0; axis < 13; axis++) {
            int path = x.path();
            x.step(path, axis, ANY, axis == Treequery.REPEAT ? empty : NONE);
            boolean isStream = axis == Treequery.SELF || axis == Treequery.CHILD || axis == Treequery.DESCENDANT
                    || axis == Treequery.DESCENDANT_OR_SELF || axis == Treequery.ATTRIBUTES;
            Due.is("axis " + axis, isStream ? 2008 : 8, x.plan(path));
        }
        int path = Sample.path(x, Treequery.CHILD, ANY);
        x.step(path, Treequery.ATTRIBUTES, 1, NONE);
        Due.is("two steps", 2008, x.plan(path));
        x.step(path, Treequery.PARENT, 1, NONE);
        Due.is("one of them not", 8, x.plan(path));
        x.remove(2);
        x.apply();
        Due.is("fewer nodes", 5, x.plan(path));
    }

    private static void planByConditions() {
        Treequery x = Sample.tree();
        int empty = x.path();
        int near = Sample.path(x, Treequery.SELF, 3);
        x.step(near, Treequery.ATTRIBUTES, 3, NONE);
        int far = Sample.path(x, Treequery.SELF, 3);
        x.step(far, Treequery.CHILD, 3, NONE);
        int placed = Sample.path(x, Treequery.ATTRIBUTES, ANY);
        x.place(placed, Treequery.EQUAL, 1);
        Due.is("equal", 2008, x.plan(placed));
        int path = Sample.path(x, Treequery.CHILD, ANY);
        x.place(path, Treequery.LESS, 2);
        Due.is("less", 2008, x.plan(path));
        x.has(path, empty, true);
        Due.is("HAS a path without steps", 2008, x.plan(path));
        path = Sample.path(x, Treequery.CHILD, ANY);
        x.has(path, near, false);
        Due.is("LACKS", 2008, x.plan(path));
        x.worth(path, near, Treequery.GREATER, 2);
        Due.is("WORTH", 2008, x.plan(path));
        x.step(path, Treequery.CHILD, ANY, NONE);
        x.place(path, Treequery.GREATER, 2);
        Due.is("a place that is greater", 8, x.plan(path));
        path = Sample.path(x, Treequery.CHILD, ANY);
        x.last(path);
        Due.is("LAST", 8, x.plan(path));
        path = Sample.path(x, Treequery.CHILD, ANY);
        x.has(path, far, true);
        Due.is("a path of other steps", 8, x.plan(path));
        path = Sample.path(x, Treequery.CHILD, ANY);
        x.has(path, placed, true);
        Due.is("a path with a condition", 8, x.plan(path));
        path = Sample.path(x, Treequery.DESCENDANT, 1);
        x.worth(path, far, Treequery.EQUAL, 2);
        Due.is("WORTH a path of other steps", 8, x.plan(path));
        x.index(1);
        Due.is("INDEX comes first", 1002, x.plan(path));
    }

    private static void views() {
        Treequery x = Sample.tree();
        int texts = Sample.path(x, Treequery.DESCENDANT, Treequery.TEXTS);
        Due.is("view", 0, x.view(texts));
        Due.is("two of one path", 1, x.view(texts));
        Due.is("viewed", "6 8 3 -1", x.viewed(0, 0) + " " + x.viewed(0, 1) + " " + x.viewed(0, 2) + " " + x.viewed(0, 3));
        Due.is("far away", NONE, x.viewed(0, Integer.MAX_VALUE));
        Due.is("not changed", 0, x.changed(0));
        Due.throwing("view of no path", Due.BOUNDS, () -> x.view(1));
        Due.throwing("view of path -1", Due.BOUNDS, () -> x.view(-1));
        Due.throwing("no view 2", Due.BOUNDS, () -> x.viewed(2, 0));
        Due.throwing("no view -1", Due.BOUNDS, () -> x.viewed(-1, 0));
        Due.throwing("place -1", Due.BOUNDS, () -> x.viewed(0, -1));
        Due.throwing("changed of no view 2", Due.BOUNDS, () -> x.changed(2));
        Due.throwing("changed of no view -1", Due.BOUNDS, () -> x.changed(-1));
        x.view(texts);
        x.view(texts);
        Due.is("the fifth one", 4, x.view(texts));
        Due.throwing("a sixth one", Due.STATE, () -> x.view(texts));
        Due.throwing("a sixth one of no path", Due.BOUNDS, () -> x.view(1));
        Due.throwing("no view 5", Due.BOUNDS, () -> x.changed(5));
    }

    private static void changes() {
        Treequery x = Sample.tree();
        int ones = Sample.path(x, Treequery.DESCENDANT, 1);
        int texts = Sample.path(x, Treequery.DESCENDANT, Treequery.TEXTS);
        x.view(ones);
        x.view(texts);
        x.rename(1, 2);
        x.rename(2, 1);
        x.insertText(0, 0, 1);
        x.apply();
        Due.is("one came, one went", 2, x.changed(0));
        Due.is("one came", 1, x.changed(1));
        Due.is("viewed", 2, x.viewed(0, 0));
        x.setValue(3, 1);
        Due.is("until it is done", 2, x.changed(0));
        x.apply();
        Due.is("nothing", 0, x.changed(0));
        x.remove(2);
        Due.is("apply", true, x.apply() > 0);
        Due.is("two went", 2, x.changed(0));
        Due.is("one went", 1, x.changed(1));
        Due.is("none left", NONE, x.viewed(0, 0));
        x.insertAttribute(0, 3, 1);
        Due.throwing("updates that cannot be done", Due.STATE, x::apply);
        Due.is("leave the count", 2, x.changed(0));
        x.forget();
        Due.is("so does what is forgotten", 2, x.changed(0));
        x.move(3, 0, 0);
        x.apply();
        Due.is("a move within", 0, x.changed(1));
        int all = x.path();
        x.view(all);
        Due.is("a new view", 0, x.changed(2));
    }

    private static void changesByVersions() {
        Treequery x = Sample.tree();
        int texts = Sample.path(x, Treequery.DESCENDANT, Treequery.TEXTS);
        x.view(texts);
        x.keep();
        x.remove(2);
        x.remove(3);
        x.apply();
        x.insertText(0, 0, 4);
        x.apply();
        Due.is("by updates", 1, x.changed(0));
        x.take(0);
        Due.is("by taking a version", 3, x.changed(0));
        Due.is("viewed", "6 8 3", x.viewed(0, 0) + " " + x.viewed(0, 1) + " " + x.viewed(0, 2));
        x.take(0);
        Due.is("by taking it again", 0, x.changed(0));
    }

    private static void viewsOfAll() {
        Treequery x = Sample.tree();
        int texts = Sample.path(x, Treequery.DESCENDANT, Treequery.TEXTS);
        x.view(texts);
        x.hide(texts);
        x.readAsReader(true);
        Due.is("views are of all nodes", 6, x.viewed(0, 0));
        x.insertText(0, 0, 1);
        x.apply();
        Due.is("changes too", 1, x.changed(0));
        Due.is("a reader finds none", 0, x.found(texts, 0));
    }
}
