import java.util.concurrent.Callable;

/** Promises 1 and 12 to 22: a new object, and what is told of nodes. */
public final class NodesTest {
    private static final int NONE = Treequery.NONE;

    public static void main(String[] args) {
        constants();
        newObject();
        counts();
        kinds();
        values();
        places();
        spaces();
        numbers();
        numbersOfMoved();
        numbersAnew();
        wrongNodes();
        Due.end();
    }

    private static void constants() {
        Due.is("kinds", "0 1 2", Treequery.ELEMENT + " " + Treequery.TEXT + " " + Treequery.ATTRIBUTE);
        int[] axes = {Treequery.SELF, Treequery.CHILD, Treequery.PARENT, Treequery.DESCENDANT,
            Treequery.DESCENDANT_OR_SELF, Treequery.ANCESTOR, Treequery.ANCESTOR_OR_SELF, Treequery.FOLLOWING,
            Treequery.PRECEDING, Treequery.FOLLOWING_SIBLING, Treequery.PRECEDING_SIBLING, Treequery.ATTRIBUTES,
            Treequery.REPEAT};
        for (int axis = 0; axis < axes.length; axis++) {
            Due.is("axis", axis, axes[axis]);
        }
        Due.is("tests", "8 9 10", Treequery.ANY + " " + Treequery.TEXTS + " " + Treequery.SPACE);
        Due.is("comparisons", "0 1 2", Treequery.EQUAL + " " + Treequery.LESS + " " + Treequery.GREATER);
        Due.is("ways", "0 1 2", Treequery.WALK + " " + Treequery.INDEX + " " + Treequery.STREAM);
        Due.is("attributes", "0 1 2", Treequery.BARRED + " " + Treequery.ALLOWED + " " + Treequery.NEEDED);
        Due.is("none", -1, NONE);
    }

    private static void newObject() {
        Treequery x = new Treequery();
        Due.is("the root alone", "1 1 0 0\n0: 0 0 -1 -1 0 16 ", Sample.all(x));
        Due.is("no updates", 0, x.forget());
        Due.is("no paths", 0, x.paths());
        Due.is("not valid without a type", false, x.isValid());
        Due.is("no types", 0, x.types(0));
        Due.is("not strict", false, x.setStrict(false));
        Due.is("no reader", false, x.readAsReader(false));
        Due.throwing("no view", Due.BOUNDS, () -> x.viewed(0, 0));
        Due.throwing("no version", Due.BOUNDS, () -> x.take(0));
        Due.is("no index", true, x.index(0));
        Due.is("seen", true, x.isSeen(0));
        x.path();
        Due.is("a path finds the root", 1, x.found(0, 0));
        x.step(0, Treequery.SELF, Treequery.SPACE, NONE);
        Due.is("an element with the space 0", 0, x.foundAt(0, 0));
        Due.is("one without a value", 1, x.groups(0));
        Treequery y = new Treequery();
        y.insertText(0, 0, 1);
        y.apply();
        Due.is("objects are apart", 1, x.nodes());
    }

    private static void counts() {
        Treequery x = Sample.tree();
        Due.is("made", 11, x.made());
        Due.is("nodes", 11, x.nodes());
        x.remove(2);
        Due.is("nodes until it is done", 11, x.nodes());
        x.apply();
        Due.is("made, also what is gone", 11, x.made());
        Due.is("nodes that are there", 8, x.nodes());
        Due.is("isThere", true, x.isThere(0) && x.isThere(1) && x.isThere(10));
        Due.is("isThere of gone ones", false, x.isThere(2) || x.isThere(7) || x.isThere(8));
        Due.is("isThere of any number", false, x.isThere(11) || x.isThere(-1) || x.isThere(60)
                || x.isThere(Integer.MAX_VALUE) || x.isThere(Integer.MIN_VALUE) || x.isThere(64));
    }

    private static void kinds() {
        Treequery x = Sample.tree();
        Due.is("element", Treequery.ELEMENT, x.kind(1));
        Due.is("text", Treequery.TEXT, x.kind(3));
        Due.is("attribute", Treequery.ATTRIBUTE, x.kind(4));
        Due.is("name of an element", 4, x.name(5));
        Due.is("name of the root", 0, x.name(0));
        Due.is("name of an attribute", 3, x.name(4));
        Due.is("name of a text", NONE, x.name(3));
    }

    private static void values() {
        Treequery x = Sample.tree();
        Due.is("value of a text", 9, x.value(6));
        Due.is("value of an attribute", 30, x.value(9));
        Due.is("value of an element", 9, x.value(1));
        Due.is("value of the first text below", 9, x.value(0));
        Due.is("value of an element without text", NONE, x.value(7));
        x.insertText(5, 0, 77);
        x.apply();
        Due.is("the first one, however deep", 77, x.value(1));
        Due.is("the first one of all", 77, x.value(0));
        x.remove(5);
        x.remove(6);
        x.apply();
        Due.is("none left", NONE, x.value(1));
        Due.is("the next one", 5, x.value(0));
    }

    private static void places() {
        Treequery x = Sample.tree();
        Due.is("parent", 1, x.parent(5));
        Due.is("parent of an attribute", 1, x.parent(9));
        Due.is("parent of the root", NONE, x.parent(0));
        Due.is("children", "1 2 3 ", Sample.children(x, 0));
        Due.is("children aside from attributes", 5, x.child(1, 0));
        Due.is("child of so many", NONE, x.child(0, 3));
        Due.is("child far away", NONE, x.child(0, Integer.MAX_VALUE));
        Due.is("child of a text", NONE, x.child(3, 0));
        Due.is("child of an attribute", NONE, x.child(4, 0));
        Due.throwing("child -1", Due.BOUNDS, () -> x.child(0, -1));
        Due.throwing("child -1 of a text", Due.BOUNDS, () -> x.child(3, -1));
    }

    private static void spaces() {
        Treequery x = Sample.tree();
        Due.is("the root without one", 0, x.space(0));
        Due.is("an element below", 0, x.space(5));
        Due.is("a text", NONE, x.space(3));
        Due.is("an attribute", NONE, x.space(4));
        x.declare(0, 2);
        x.declare(2, 0);
        x.apply();
        Due.is("the root's own", 2, x.space(0));
        Due.is("that of the parent", 2, x.space(5));
        Due.is("an own one of 0", 0, x.space(7));
        x.move(7, 1, 0);
        x.apply();
        Due.is("that of the new parent", 2, x.space(7));
    }

    private static void numbers() {
        Treequery x = Sample.tree();
        Due.is("the root", 16, x.number(0));
        Due.is("first row", "32 48 64", x.number(1) + " " + x.number(2) + " " + x.number(3));
        Due.is("rows between", "37 42 53 58", x.number(5) + " " + x.number(6) + " " + x.number(7) + " " + x.number(8));
        Due.is("an attribute", NONE, x.number(4));
        x.insertText(0, 3, 1);
        x.insertText(0, 3, 2);
        x.insertElement(1, 1, 1);
        x.apply();
        Due.is("behind all", "80 96", x.number(11) + " " + x.number(12));
        Due.is("between 37 and 42", 39, x.number(13));
        x.remove(5);
        x.remove(13);
        x.apply();
        Due.is("others keep theirs", "32 42", x.number(1) + " " + x.number(6));
        x.insertText(1, 0, 1);
        x.apply();
        Due.is("between 32 and 42", 37, x.number(14));
        Due.is("numbered", 0, x.numbered());
    }

    private static void numbersOfMoved() {
        Treequery x = Sample.tree();
        x.move(1, 0, 3);
        x.apply();
        Due.is("moved, with all below it", "80 96 112", x.number(1) + " " + x.number(5) + " " + x.number(6));
        Due.is("others stay", "16 48 53 58 64", x.number(0) + " " + x.number(2) + " " + x.number(7) + " "
                + x.number(8) + " " + x.number(3));
        x.move(7, 2, 0);
        x.apply();
        Due.is("moved to where it was", 53, x.number(7));
        x.move(5, 2, 1);
        x.move(8, 1, 0);
        x.apply();
        Due.is("a row of one", 58, x.number(5));
        Due.is("another row of one", 96, x.number(8));
    }

    private static void numbersAnew() {
        Treequery x = new Treequery();
        x.insertText(0, 0, 1);
        x.insertText(0, 0, 2);
        x.apply();
        for (int i = 0; i < 15; i++) {
            x.insertText(0, 1, i);
        }
        x.apply();
        Due.is("fifteen fit between 32 and 48", "33 47", x.number(3) + " " + x.number(17));
        Due.is("numbered", 0, x.numbered());
        x.insertText(0, 2, 7);
        x.apply();
        Due.is("no room between 33 and 34", 1, x.numbered());
        Due.is("all anew", "16 32 48 64 80", x.number(0) + " " + x.number(1) + " " + x.number(3) + " " + x.number(18)
                + " " + x.number(4));
        for (int i = 0; i < 16; i++) {
            x.insertText(0, 2, i);
        }
        x.apply();
        Due.is("sixteen do not fit", 2, x.numbered());
        x.insertText(0, 0, 1);
        Due.throwing("too many", Due.STATE, () -> {
            for (int i = 0; i < 19; i++) {
                x.insertText(0, 0, 1);
            }
            x.insertText(0, 0, 1);
            return 0;
        });
        x.forget();
        x.keep();
        x.take(0);
        Due.is("taking a version does not count", 2, x.numbered());
    }

    private static void wrongNode(String call, Treequery x, java.util.function.IntFunction<Callable<?>> of) {
        for (int node : new int[] {-1, 2, 7, 11, 60, 64, Integer.MAX_VALUE, Integer.MIN_VALUE}) {
            Due.throwing(call + " of " + node, Due.BOUNDS, of.apply(node));
        }
    }

    private static void wrongNodes() {
        Treequery x = Sample.tree();
        x.remove(2);
        x.apply();
        String before = Sample.all(x);
        wrongNode("kind", x, node -> () -> x.kind(node));
        wrongNode("name", x, node -> () -> x.name(node));
        wrongNode("value", x, node -> () -> x.value(node));
        wrongNode("parent", x, node -> () -> x.parent(node));
        wrongNode("child", x, node -> () -> x.child(node, 0));
        wrongNode("space", x, node -> () -> x.space(node));
        wrongNode("number", x, node -> () -> x.number(node));
        Due.is("nothing has changed", before, Sample.all(x));
    }
}
