/** Promises 23 to 35: paths, and what they find. */
public final class PathsTest {
    private static final int NONE = Treequery.NONE;
    private static final int ANY = Treequery.ANY;

    public static void main(String[] args) {
        paths();
        steps();
        conditions();
        conditionsWorth();
        wrongOrder();
        axes();
        axesOfAttributes();
        repeats();
        repeatsDeep();
        lastPathOfAll();
        tests();
        severalSteps();
        places();
        placesBackwards();
        lasts();
        twoConditions();
        truths();
        worths();
        found();
        ordered();
        groups();
        changes();
        readers();
        readersConditions();
        Due.end();
    }

    private static void wrong(Treequery x, String call, String want, java.util.concurrent.Callable<?> got) {
        String before = told(x);
        Due.throwing(call, want, got);
        Due.is(call + " leaves the paths", before, told(x));
    }

    private static String told(Treequery x) {
        StringBuilder told = new StringBuilder();
        for (int path = 0; path < x.paths(); path++) {
            told.append(Sample.found(x, path)).append('/').append(x.plan(path)).append(' ');
        }
        return told.toString();
    }

    private static void paths() {
        Treequery x = Sample.tree();
        Due.is("none at first", 0, x.paths());
        for (int path = 0; path < 20; path++) {
            Due.is("path", path, x.path());
        }
        Due.is("paths", 20, x.paths());
        Due.throwing("a 21st path", Due.STATE, x::path);
        Due.is("paths", 20, x.paths());
        Due.is("a path without steps finds the node", "0 ", Sample.found(x, 19));
        Due.is("also another one", 1, x.found(19, 5));
    }

    private static void steps() {
        Treequery x = Sample.tree();
        x.path();
        x.path();
        Due.is("step", 1, x.step(1, Treequery.DESCENDANT, ANY, NONE));
        Due.is("step", 2, x.step(1, Treequery.REPEAT, 13, 0));
        wrong(x, "step of no path", Due.BOUNDS, () -> x.step(2, 0, 0, NONE));
        wrong(x, "step of path -1", Due.BOUNDS, () -> x.step(-1, 99, 0, NONE));
        wrong(x, "REPEAT of itself", Due.BOUNDS, () -> x.step(1, Treequery.REPEAT, 8, 1));
        wrong(x, "REPEAT of a higher path", Due.BOUNDS, () -> x.step(1, Treequery.REPEAT, 8, 2));
        wrong(x, "REPEAT of none", Due.BOUNDS, () -> x.step(1, Treequery.REPEAT, 99, NONE));
        wrong(x, "axis -1", Due.ARGUMENT, () -> x.step(1, -1, 0, NONE));
        wrong(x, "axis 13", Due.ARGUMENT, () -> x.step(1, 13, 0, 0));
        wrong(x, "test -1", Due.ARGUMENT, () -> x.step(1, 0, -1, NONE));
        wrong(x, "test 14", Due.ARGUMENT, () -> x.step(1, 0, 14, NONE));
        wrong(x, "a path for SELF", Due.ARGUMENT, () -> x.step(1, 0, 0, 0));
        wrong(x, "a wrong path for SELF", Due.ARGUMENT, () -> x.step(1, 0, 0, -2));
        wrong(x, "test of a path that is not the last", Due.ARGUMENT, () -> x.step(0, 0, 14, NONE));
        wrong(x, "step of a path that is not the last", Due.STATE, () -> x.step(0, 0, 0, NONE));
        x.step(1, 0, 0, NONE);
        x.step(1, 0, 13, NONE);
        Due.is("fifth step", 5, x.step(1, 0, 0, NONE));
        wrong(x, "sixth step", Due.STATE, () -> x.step(1, 0, 0, NONE));
        wrong(x, "sixth step with a wrong test", Due.ARGUMENT, () -> x.step(1, 0, 14, NONE));
        x.path();
        x.view(2);
        wrong(x, "step of a path with a view", Due.STATE, () -> x.step(2, 0, 0, NONE));
    }

    private static void conditions() {
        Treequery x = Sample.tree();
        x.path();
        x.path();
        wrong(x, "place without a step", Due.STATE, () -> x.place(1, 0, 1));
        wrong(x, "last without a step", Due.STATE, () -> x.last(1));
        wrong(x, "has without a step", Due.STATE, () -> x.has(1, 0, true));
        x.step(1, Treequery.CHILD, ANY, NONE);
        wrong(x, "place of no path", Due.BOUNDS, () -> x.place(2, 9, 1));
        wrong(x, "comparison -1", Due.ARGUMENT, () -> x.place(1, -1, 1));
        wrong(x, "comparison 3", Due.ARGUMENT, () -> x.place(1, 3, 1));
        wrong(x, "number -1", Due.ARGUMENT, () -> x.place(1, 0, -1));
        wrong(x, "number 100", Due.ARGUMENT, () -> x.place(0, 0, 100));
        wrong(x, "place of a path that is not the last", Due.STATE, () -> x.place(0, 0, 1));
        Due.is("place", 1, x.place(1, Treequery.LESS, 99));
        Due.is("place", 2, x.place(1, Treequery.GREATER, 0));
        wrong(x, "a third place", Due.STATE, () -> x.place(1, 0, 1));
        wrong(x, "a third condition", Due.STATE, () -> x.last(1));
        wrong(x, "a third condition", Due.STATE, () -> x.has(1, 0, false));
        x.step(1, Treequery.SELF, ANY, NONE);
        wrong(x, "last of no path", Due.BOUNDS, () -> x.last(2));
        wrong(x, "last of a path that is not the last", Due.STATE, () -> x.last(0));
        Due.is("last of another step", 1, x.last(1));
        wrong(x, "has of path -1", Due.BOUNDS, () -> x.has(-1, 0, true));
        wrong(x, "has of no path", Due.BOUNDS, () -> x.has(2, 0, true));
        wrong(x, "has of itself", Due.BOUNDS, () -> x.has(1, 1, true));
        wrong(x, "has of -1", Due.BOUNDS, () -> x.has(1, -1, true));
        wrong(x, "has of a path that is not the last, by itself", Due.BOUNDS, () -> x.has(0, 0, true));
        Due.is("has", 2, x.has(1, 0, true));
        x.path();
        x.step(2, Treequery.CHILD, ANY, NONE);
        wrong(x, "has of a path that is not the last", Due.STATE, () -> x.has(1, 0, true));
        x.view(2);
        wrong(x, "place of a path with a view", Due.STATE, () -> x.place(2, 0, 1));
        wrong(x, "last of a path with a view", Due.STATE, () -> x.last(2));
        wrong(x, "has of a path with a view", Due.STATE, () -> x.has(2, 0, true));
        wrong(x, "worth of a path with a view", Due.STATE, () -> x.worth(2, 0, 0, 1));
    }

    private static void conditionsWorth() {
        Treequery x = Sample.tree();
        x.path();
        x.path();
        wrong(x, "worth without a step", Due.STATE, () -> x.worth(1, 0, 0, 1));
        x.step(1, Treequery.CHILD, ANY, NONE);
        wrong(x, "worth of no path", Due.BOUNDS, () -> x.worth(2, 0, 0, 1));
        wrong(x, "worth of itself", Due.BOUNDS, () -> x.worth(1, 1, 3, 1));
        wrong(x, "worth of -1", Due.BOUNDS, () -> x.worth(1, NONE, 0, 1));
        wrong(x, "worth comparison -1", Due.ARGUMENT, () -> x.worth(1, 0, -1, 1));
        wrong(x, "worth comparison 3", Due.ARGUMENT, () -> x.worth(1, 0, 3, 1));
        wrong(x, "worth number -1", Due.ARGUMENT, () -> x.worth(1, 0, 0, -1));
        wrong(x, "worth number 1000", Due.ARGUMENT, () -> x.worth(1, 0, 0, 1000));
        Due.is("worth", 1, x.worth(1, 0, Treequery.LESS, 999));
        Due.is("worth", 2, x.worth(1, 0, Treequery.GREATER, 0));
        wrong(x, "a third worth", Due.STATE, () -> x.worth(1, 0, 0, 1));
        x.path();
        wrong(x, "worth of a path that is not the last", Due.STATE, () -> x.worth(1, 0, 0, 1));
    }

    private static void wrongOrder() {
        Treequery x = Sample.tree();
        int path = Sample.path(x, Treequery.CHILD, ANY);
        Due.throwing("found of no path", Due.BOUNDS, () -> x.found(1, 0));
        Due.throwing("found of path -1", Due.BOUNDS, () -> x.found(-1, 0));
        Due.throwing("found from no node", Due.BOUNDS, () -> x.found(path, 11));
        Due.throwing("found from -1", Due.BOUNDS, () -> x.found(path, -1));
        Due.throwing("foundAnew of no path", Due.BOUNDS, () -> x.foundAnew(1, 0));
        Due.throwing("foundAnew from no node", Due.BOUNDS, () -> x.foundAnew(path, 60));
        Due.throwing("foundAt of no path", Due.BOUNDS, () -> x.foundAt(1, 0));
        Due.throwing("foundAt 3 of 3", Due.BOUNDS, () -> x.foundAt(path, 3));
        Due.throwing("foundAt -1", Due.BOUNDS, () -> x.foundAt(path, -1));
        Due.throwing("ordered of no path", Due.BOUNDS, () -> x.ordered(1, 0));
        Due.throwing("ordered 3 of 3", Due.BOUNDS, () -> x.ordered(path, 3));
        Due.throwing("ordered -1", Due.BOUNDS, () -> x.ordered(path, -1));
        Due.throwing("groups of no path", Due.BOUNDS, () -> x.groups(1));
        Due.throwing("foundAnew of path -1", Due.BOUNDS, () -> x.foundAnew(-1, 0));
        Due.throwing("groups of path -1", Due.BOUNDS, () -> x.groups(Integer.MIN_VALUE));
    }

    private static void axes() {
        Treequery x = Sample.tree();
        String[] from0 = {"0", "1 2 3", "", "1 5 6 2 7 8 3", "0 1 5 6 2 7 8 3", "", "0", "", "", "", "", "4"};
        String[] from1 = {"1", "5 6", "0", "5 6", "1 5 6", "0", "0 1", "2 7 8 3", "", "2 3", "", "10 9"};
        String[] from2 = {"2", "7 8", "0", "7 8", "2 7 8", "0", "0 2", "3", "1 5 6", "3", "1", ""};
        String[] from8 = {"8", "", "2", "", "8", "0 2", "0 2 8", "3", "1 5 6 7", "", "7", ""};
        String[] from9 = {"9", "", "1", "", "9", "0 1", "0 1 9", "5 6 2 7 8 3", "", "", "", ""};
        int[] nodes = {0, 1, 2, 8, 9};
        String[][] due = {from0, from1, from2, from8, from9};
        for (int axis = 0; axis < 12; axis++) {
            for (int i = 0; i < nodes.length; i++) {
                Due.is("axis " + axis + " from " + nodes[i], due[i][axis], listed(nodes[i], axis, ANY));
            }
        }
        Due.is("the order is that of the document", "0 1 5 6 2 7 8 3 ",
                Sample.found(x, Sample.path(x, Treequery.DESCENDANT_OR_SELF, ANY)));
    }

    /** What a step finds from a node, told by a path from the root whose first steps lead to the node alone. */
    private static String listed(int node, int axis, int test) {
        Treequery x = Sample.tree();
        int path = x.path();
        lead(x, path, node);
        Due.is("the way to " + node, node + " ", Sample.found(x, path));
        x.step(path, axis, test, NONE);
        Due.is("foundAnew", x.found(path, 0), x.foundAnew(path, 0));
        return Sample.found(x, path).trim();
    }

    private static void lead(Treequery x, int path, int node) {
        int up = x.parent(node);
        if (up == NONE) {
            return;
        }
        if (x.parent(up) != NONE) {
            x.step(path, Treequery.CHILD, ANY, NONE);
            x.place(path, Treequery.EQUAL, placeOf(x, up));
        }
        if (x.kind(node) == Treequery.ATTRIBUTE) {
            x.step(path, Treequery.ATTRIBUTES, x.name(node), NONE);
        } else {
            x.step(path, Treequery.CHILD, ANY, NONE);
            x.place(path, Treequery.EQUAL, placeOf(x, node));
        }
    }

    private static int placeOf(Treequery x, int node) {
        int place = 0;
        while (x.child(x.parent(node), place) != node) {
            place++;
        }
        return place + 1;
    }

    private static void axesOfAttributes() {
        Due.is("behind the first attribute is no attribute", "1 5 6 2 7 8 3", listed(4, Treequery.FOLLOWING, ANY));
        Due.is("ahead of an attribute", "", listed(10, Treequery.PRECEDING, ANY));
        Due.is("an attribute has no siblings", "", listed(10, Treequery.FOLLOWING_SIBLING, ANY));
        Due.is("nor ahead of it", "", listed(9, Treequery.PRECEDING_SIBLING, ANY));
        Due.is("attributes of an attribute", "", listed(9, Treequery.ATTRIBUTES, ANY));
    }

    private static void repeats() {
        Treequery x = Sample.tree();
        int child = Sample.path(x, Treequery.CHILD, ANY);
        int all = x.path();
        x.step(all, Treequery.REPEAT, ANY, child);
        Due.is("CHILD and again", "1 5 6 2 7 8 3 ", Sample.found(x, all));
        Due.is("from another node", 2, x.found(all, 2));
        Due.is("from a text", 0, x.found(all, 8));
        int ones = x.path();
        x.step(ones, Treequery.REPEAT, 1, child);
        Due.is("the test is of all that are found", "1 7 ", Sample.found(x, ones));
        int nothing = x.path();
        int itself = x.path();
        x.step(itself, Treequery.REPEAT, ANY, nothing);
        Due.is("a path without steps finds it again", "0 ", Sample.found(x, itself));
        int around = x.path();
        x.step(around, Treequery.PARENT, ANY, NONE);
        x.step(around, Treequery.CHILD, ANY, NONE);
        x.place(around, Treequery.EQUAL, 2);
        int rounds = x.path();
        x.step(rounds, Treequery.REPEAT, ANY, around);
        Due.is("what comes back", 1, x.found(rounds, 1));
        Due.is("found from itself too", 1, x.found(rounds, 2));
        int second = x.path();
        x.step(second, Treequery.REPEAT, ANY, child);
        x.place(second, Treequery.EQUAL, 2);
        Due.is("places among all that are found", "5 ", Sample.found(x, second));
        int last = x.path();
        x.step(last, Treequery.REPEAT, ANY, child);
        x.last(last);
        Due.is("the last of all", "3 ", Sample.found(x, last));
    }

    /** A chain of twenty elements: the path has to be asked again and again. */
    private static void repeatsDeep() {
        Treequery x = new Treequery();
        for (int node = 0; node < 20; node++) {
            x.insertElement(node, 0, node % 2);
            x.apply();
        }
        int child = Sample.path(x, Treequery.CHILD, ANY);
        int down = x.path();
        x.step(down, Treequery.REPEAT, ANY, child);
        Due.is("down to the end", 20, x.found(down, 0));
        Due.is("down from the middle", 9, x.found(down, 11));
        int up = Sample.path(x, Treequery.PARENT, ANY);
        int above = x.path();
        x.step(above, Treequery.REPEAT, 0, up);
        Due.is("up to the root", 11, x.found(above, 20));
        int twice = x.path();
        x.step(twice, Treequery.REPEAT, ANY, above);
        x.last(twice);
        Due.is("again by what repeats", 1, x.found(twice, 20));
        int all = x.path();
        x.step(all, Treequery.REPEAT, ANY, down);
        x.place(all, Treequery.GREATER, 18);
        Due.is("all below, the last two", "19 20 ", Sample.found(x, all));
    }

    /** The last of twenty paths, with all steps and conditions that it can have. */
    private static void lastPathOfAll() {
        Treequery x = Sample.tree();
        int texts = Sample.path(x, Treequery.DESCENDANT_OR_SELF, Treequery.TEXTS);
        for (int path = 1; path < 19; path++) {
            x.path();
        }
        int path = x.path();
        x.step(path, Treequery.CHILD, ANY, NONE);
        x.has(path, texts, true);
        x.place(path, Treequery.LESS, 3);
        Due.is("first step", "1 2 ", Sample.found(x, path));
        x.step(path, Treequery.DESCENDANT_OR_SELF, ANY, NONE);
        x.worth(path, texts, Treequery.LESS, 10);
        x.place(path, Treequery.GREATER, 1);
        Due.is("second step", "6 8 ", Sample.found(x, path));
        x.step(path, Treequery.PRECEDING, ANY, NONE);
        x.has(path, texts, false);
        x.place(path, Treequery.EQUAL, 1);
        Due.is("third step", "5 7 ", Sample.found(x, path));
        x.step(path, Treequery.ANCESTOR, ANY, NONE);
        x.place(path, Treequery.EQUAL, 1);
        x.worth(path, texts, Treequery.EQUAL, 5);
        Due.is("fourth step", "2 ", Sample.found(x, path));
        x.step(path, Treequery.FOLLOWING_SIBLING, Treequery.TEXTS, NONE);
        x.last(path);
        x.worth(path, texts, Treequery.GREATER, 4);
        Due.is("fifth step", "3 ", Sample.found(x, path));
    }

    private static void tests() {
        Due.is("a name", "1 7", listed(0, Treequery.DESCENDANT, 1));
        Due.is("a name that none has", "", listed(0, Treequery.DESCENDANT, 3));
        Due.is("a name of an attribute", "4", listed(0, Treequery.ATTRIBUTES, 3));
        Due.is("a name of the root", "0", listed(5, Treequery.ANCESTOR, 0));
        Due.is("texts", "6 8 3", listed(0, Treequery.DESCENDANT, Treequery.TEXTS));
        Due.is("texts on other axes", "6", listed(1, Treequery.CHILD, Treequery.TEXTS));
        Due.is("no texts among attributes", "", listed(1, Treequery.ATTRIBUTES, Treequery.TEXTS));
        Due.is("a space", "1 5 2 7", listed(0, Treequery.DESCENDANT, Treequery.SPACE));
        Due.is("another space", "", listed(0, Treequery.DESCENDANT, Treequery.SPACE + 3));
        Due.is("an attribute has no space", "", listed(1, Treequery.ATTRIBUTES, Treequery.SPACE));
        Treequery x = Sample.tree();
        x.declare(2, 3);
        x.declare(0, 1);
        x.apply();
        Due.is("by scope", "2 7 ", Sample.found(x, Sample.path(x, Treequery.DESCENDANT, Treequery.SPACE + 3)));
        Due.is("of the root", "1 5 ", Sample.found(x, Sample.path(x, Treequery.DESCENDANT, Treequery.SPACE + 1)));
        Due.is("none left", "", Sample.found(x, Sample.path(x, Treequery.DESCENDANT, Treequery.SPACE)));
        Due.is("of itself", "0 ", Sample.found(x, Sample.path(x, Treequery.SELF, Treequery.SPACE + 1)));
    }

    private static void severalSteps() {
        Treequery x = Sample.tree();
        int path = Sample.path(x, Treequery.DESCENDANT, ANY);
        x.step(path, Treequery.PARENT, ANY, NONE);
        Due.is("each once", "0 1 2 ", Sample.found(x, path));
        x.step(path, Treequery.CHILD, Treequery.TEXTS, NONE);
        Due.is("in the order of the document", "6 8 3 ", Sample.found(x, path));
        x.step(path, Treequery.ANCESTOR_OR_SELF, ANY, NONE);
        x.place(path, Treequery.EQUAL, 2);
        Due.is("places from each of them", "0 1 2 ", Sample.found(x, path));
        x.step(path, Treequery.ATTRIBUTES, ANY, NONE);
        Due.is("attributes", "4 10 9 ", Sample.found(x, path));
        Due.is("from another node", 2, x.found(path, 1));
    }

    private static void placed(String due, int axis, int comparison, int number) {
        Treequery x = Sample.tree();
        int path = Sample.path(x, axis, ANY);
        x.place(path, comparison, number);
        Due.is("place " + comparison + " " + number, due, Sample.found(x, path));
    }

    private static void places() {
        placed("1 ", Treequery.CHILD, Treequery.EQUAL, 1);
        placed("3 ", Treequery.CHILD, Treequery.EQUAL, 3);
        placed("", Treequery.CHILD, Treequery.EQUAL, 0);
        placed("", Treequery.CHILD, Treequery.EQUAL, 4);
        placed("1 2 ", Treequery.CHILD, Treequery.LESS, 3);
        placed("", Treequery.CHILD, Treequery.LESS, 1);
        placed("", Treequery.CHILD, Treequery.LESS, 0);
        placed("1 2 3 ", Treequery.CHILD, Treequery.LESS, 99);
        placed("2 3 ", Treequery.CHILD, Treequery.GREATER, 1);
        placed("1 2 3 ", Treequery.CHILD, Treequery.GREATER, 0);
        placed("", Treequery.CHILD, Treequery.GREATER, 3);
        placed("7 8 3 ", Treequery.DESCENDANT, Treequery.GREATER, 4);
    }

    /** What a step with a condition of place finds from a node. */
    private static int only(int node, int axis, int number) {
        Treequery x = Sample.tree();
        int path = Sample.path(x, axis, ANY);
        x.place(path, Treequery.EQUAL, number);
        int count = x.found(path, node);
        Due.is("one or none", true, count == x.foundAnew(path, node) && count < 2);
        int way = x.path();
        lead(x, way, node);
        x.step(way, axis, ANY, NONE);
        x.place(way, Treequery.EQUAL, number);
        return count == 0 ? NONE : x.foundAt(way, 0);
    }

    private static void placesBackwards() {
        Due.is("PARENT", 2, only(8, Treequery.PARENT, 1));
        Due.is("ANCESTOR, the nearest first", 2, only(8, Treequery.ANCESTOR, 1));
        Due.is("ANCESTOR, then the root", 0, only(8, Treequery.ANCESTOR, 2));
        Due.is("ANCESTOR_OR_SELF", 8, only(8, Treequery.ANCESTOR_OR_SELF, 1));
        Due.is("PRECEDING, the nearest first", 7, only(8, Treequery.PRECEDING, 1));
        Due.is("PRECEDING, the farthest last", 1, only(8, Treequery.PRECEDING, 4));
        Due.is("PRECEDING_SIBLING", 2, only(3, Treequery.PRECEDING_SIBLING, 1));
        Due.is("PRECEDING_SIBLING", 1, only(3, Treequery.PRECEDING_SIBLING, 2));
        Due.is("FOLLOWING", 2, only(6, Treequery.FOLLOWING, 1));
        Due.is("FOLLOWING_SIBLING", 2, only(1, Treequery.FOLLOWING_SIBLING, 1));
        Due.is("DESCENDANT_OR_SELF", 2, only(2, Treequery.DESCENDANT_OR_SELF, 1));
        Due.is("ATTRIBUTES", 10, only(1, Treequery.ATTRIBUTES, 1));
        Due.is("SELF", 5, only(5, Treequery.SELF, 1));
        Due.is("no place", NONE, only(5, Treequery.SELF, 2));
        Due.is("CHILD", 8, only(2, Treequery.CHILD, 2));
        Due.is("DESCENDANT", 5, only(0, Treequery.DESCENDANT, 2));
    }

    private static void lasts() {
        int[][] due = {{Treequery.CHILD, 0, 3}, {Treequery.ANCESTOR, 8, 0}, {Treequery.ANCESTOR_OR_SELF, 8, 0},
            {Treequery.PRECEDING, 8, 1}, {Treequery.PRECEDING_SIBLING, 3, 1}, {Treequery.FOLLOWING_SIBLING, 1, 3},
            {Treequery.PARENT, 8, 2}, {Treequery.ATTRIBUTES, 1, 9}, {Treequery.FOLLOWING, 5, 3}};
        for (int[] each : due) {
            Treequery x = Sample.tree();
            int path = x.path();
            lead(x, path, each[1]);
            x.step(path, each[0], ANY, NONE);
            x.last(path);
            Due.is("the last by axis " + each[0], each[2] + " ", Sample.found(x, path));
        }
        Treequery x = Sample.tree();
        int path = Sample.path(x, Treequery.CHILD, 7);
        x.last(path);
        Due.is("the last of none", 0, x.found(path, 0));
    }

    private static void twoConditions() {
        Treequery x = Sample.tree();
        int path = Sample.path(x, Treequery.DESCENDANT, ANY);
        x.place(path, Treequery.GREATER, 2);
        x.place(path, Treequery.EQUAL, 2);
        Due.is("the second one of those that the first one leaves", "2 ", Sample.found(x, path));
        int texts = Sample.path(x, Treequery.DESCENDANT, Treequery.TEXTS);
        x.place(texts, Treequery.LESS, 3);
        x.last(texts);
        Due.is("the last of the first two", "8 ", Sample.found(x, texts));
        int odd = Sample.path(x, Treequery.DESCENDANT, Treequery.TEXTS);
        x.last(odd);
        x.place(odd, Treequery.EQUAL, 1);
        Due.is("the first of the last", "3 ", Sample.found(x, odd));
        int children = Sample.path(x, Treequery.CHILD, ANY);
        int parents = Sample.path(x, Treequery.DESCENDANT, ANY);
        x.has(parents, children, true);
        x.place(parents, Treequery.EQUAL, 2);
        Due.is("the second one with children", "2 ", Sample.found(x, parents));
    }

    private static void truths() {
        Treequery x = Sample.tree();
        int texts = Sample.path(x, Treequery.CHILD, Treequery.TEXTS);
        int with = Sample.path(x, Treequery.DESCENDANT_OR_SELF, ANY);
        x.has(with, texts, true);
        Due.is("HAS", "0 1 2 ", Sample.found(x, with));
        int without = Sample.path(x, Treequery.DESCENDANT_OR_SELF, ANY);
        x.has(without, texts, false);
        Due.is("LACKS", "5 6 7 8 3 ", Sample.found(x, without));
        int both = Sample.path(x, Treequery.DESCENDANT, ANY);
        x.has(both, texts, false);
        x.has(both, without, true);
        Due.is("by a path that has conditions itself", "5 6 7 8 3 ", Sample.found(x, both));
    }

    private static String worth(int comparison, int number, int axis) {
        Treequery x = Sample.tree();
        int other = Sample.path(x, axis, ANY);
        int path = Sample.path(x, Treequery.DESCENDANT_OR_SELF, ANY);
        x.worth(path, other, comparison, number);
        return Sample.found(x, path);
    }

    private static void worths() {
        Due.is("WORTH of attributes", "1 ", worth(Treequery.EQUAL, 30, Treequery.ATTRIBUTES));
        Due.is("WORTH less", "0 1 ", worth(Treequery.LESS, 21, Treequery.ATTRIBUTES));
        Due.is("WORTH less than the least", "", worth(Treequery.LESS, 7, Treequery.ATTRIBUTES));
        Due.is("WORTH greater", "1 ", worth(Treequery.GREATER, 29, Treequery.ATTRIBUTES));
        Due.is("WORTH greater than the greatest", "", worth(Treequery.GREATER, 30, Treequery.ATTRIBUTES));
        Due.is("WORTH of itself", "0 1 6 ", worth(Treequery.EQUAL, 9, Treequery.SELF));
        Due.is("without a value nothing is less", "", worth(Treequery.LESS, 5, Treequery.SELF));
        Due.is("WORTH of children", "0 2 ", worth(Treequery.EQUAL, 5, Treequery.CHILD));
    }

    private static void found() {
        Treequery x = Sample.tree();
        int path = Sample.path(x, Treequery.CHILD, ANY);
        Due.is("from the root", 3, x.found(path, 0));
        Due.is("from a node", 2, x.found(path, 2));
        Due.is("from a text", 0, x.found(path, 3));
        Due.is("anew", 3, x.foundAnew(path, 0));
        Due.is("anew from a node", 2, x.foundAnew(path, 2));
        Due.is("the first one", 1, x.foundAt(path, 0));
        Due.is("the last one", 3, x.foundAt(path, 2));
    }

    private static void ordered() {
        Treequery x = Sample.tree();
        int path = Sample.path(x, Treequery.DESCENDANT, ANY);
        StringBuilder told = new StringBuilder();
        for (int place = 0; place < 7; place++) {
            told.append(x.ordered(path, place)).append(' ');
        }
        Due.is("those without a value ahead, then by values", "5 7 2 8 3 1 6 ", told.toString());
        int attributes = Sample.path(x, Treequery.DESCENDANT_OR_SELF, ANY);
        x.step(attributes, Treequery.ATTRIBUTES, ANY, NONE);
        Due.is("attributes", "4 10 9", x.ordered(attributes, 0) + " " + x.ordered(attributes, 1) + " " + x.ordered(attributes, 2));
        x.setValue(4, 25);
        x.apply();
        Due.is("attributes", "10 4 9", x.ordered(attributes, 0) + " " + x.ordered(attributes, 1) + " " + x.ordered(attributes, 2));
    }

    private static void groups() {
        Treequery x = Sample.tree();
        int path = Sample.path(x, Treequery.DESCENDANT, ANY);
        Due.is("5, 9 and none", 3, x.groups(path));
        Due.is("texts", 2, x.groups(Sample.path(x, Treequery.DESCENDANT, Treequery.TEXTS)));
        Due.is("nothing found", 0, x.groups(Sample.path(x, Treequery.CHILD, 7)));
        Due.is("one", 1, x.groups(Sample.path(x, Treequery.DESCENDANT, 4)));
    }

    /** What was found once is not what is found later. */
    private static void changes() {
        Treequery x = Sample.tree();
        int path = x.path();
        Due.is("no step", "0 ", Sample.found(x, path));
        x.step(path, Treequery.DESCENDANT, ANY, NONE);
        Due.is("a step", "1 5 6 2 7 8 3 ", Sample.found(x, path));
        x.place(path, Treequery.GREATER, 1);
        Due.is("a condition", "5 6 2 7 8 3 ", Sample.found(x, path));
        x.last(path);
        Due.is("another one", "3 ", Sample.found(x, path));
        x.remove(3);
        x.apply();
        Due.is("an update", "8 ", Sample.found(x, path));
        x.keep();
        x.remove(2);
        x.apply();
        Due.is("another update", "6 ", Sample.found(x, path));
        x.take(0);
        Due.is("a version", "8 ", Sample.found(x, path));
    }

    private static void readers() {
        Treequery x = Sample.tree();
        int twos = Sample.path(x, Treequery.DESCENDANT, 2);
        int all = Sample.path(x, Treequery.DESCENDANT, ANY);
        int texts = Sample.path(x, Treequery.DESCENDANT, Treequery.TEXTS);
        x.hide(twos);
        Due.is("not as a reader", 7, x.found(all, 0));
        Due.is("readAsReader", false, x.readAsReader(true));
        Due.is("readAsReader again", true, x.readAsReader(true));
        Due.is("found", "1 5 6 3 ", Sample.found(x, all));
        Due.is("foundAnew", 4, x.foundAnew(all, 0));
        Due.is("ordered", 6, x.ordered(texts, 1));
        Due.is("groups", 2, x.groups(texts));
        Due.throwing("found from what is not seen", Due.BOUNDS, () -> x.found(all, 2));
        Due.throwing("foundAnew from what is not seen", Due.BOUNDS, () -> x.foundAnew(all, 8));
        Due.is("what is hidden, for the reader", 0, x.found(twos, 0));
        Due.is("else all nodes", 5, x.value(2));
        Due.is("plan", 2008, x.plan(all));
        Due.is("readAsReader", true, x.readAsReader(false));
        Due.is("all again", 7, x.found(all, 0));
        Due.is("from it again", 2, x.found(all, 2));
    }

    private static void readersConditions() {
        Treequery x = Sample.tree();
        int nines = Sample.path(x, Treequery.DESCENDANT, 1);
        x.place(nines, Treequery.EQUAL, 1);
        x.step(nines, Treequery.CHILD, Treequery.TEXTS, NONE);
        int child = Sample.path(x, Treequery.CHILD, Treequery.TEXTS);
        int has = Sample.path(x, Treequery.DESCENDANT, ANY);
        x.has(has, child, true);
        int last = x.path();
        x.step(last, Treequery.CHILD, ANY, NONE);
        x.step(last, Treequery.CHILD, ANY, NONE);
        x.last(last);
        int self = x.path();
        int worth = Sample.path(x, Treequery.DESCENDANT, ANY);
        x.worth(worth, self, Treequery.EQUAL, 9);
        int elements = Sample.path(x, Treequery.CHILD, ANY);
        x.hide(nines);
        Due.is("HAS", "1 2 ", Sample.found(x, has));
        Due.is("LAST", "6 8 ", Sample.found(x, last));
        Due.is("WORTH", "1 6 ", Sample.found(x, worth));
        Due.is("values", 2, x.groups(elements));
        x.readAsReader(true);
        Due.is("HAS as a reader", "2 ", Sample.found(x, has));
        Due.is("LAST as a reader", "5 8 ", Sample.found(x, last));
        Due.is("WORTH as a reader", "", Sample.found(x, worth));
        Due.is("values as a reader", 2, x.groups(elements));
        Due.is("the one without a value first", 1, x.ordered(elements, 0));
        Due.is("value by all", 9, x.value(1));
    }
}
