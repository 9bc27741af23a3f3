import java.util.function.IntUnaryOperator;

/** Trees that many tests begin with. */
final class Sample {
    private Sample() {
    }

    /**
     * Eleven nodes, in the order of the document:
     * 0 element 0, 4 attribute 3 = 7,
     * 1 element 1, 10 attribute 0 = 20, 9 attribute 2 = 30, 5 element 4, 6 text 9,
     * 2 element 2, 7 element 1, 8 text 5,
     * 3 text 5.
     */
    static Treequery tree() {
        Treequery x = new Treequery();
        x.insertElement(0, 0, 1);
        x.insertElement(0, 0, 2);
        x.insertText(0, 0, 5);
        x.insertAttribute(0, 3, 7);
        x.apply();
        x.insertElement(1, 0, 4);
        x.insertText(1, 0, 9);
        x.insertElement(2, 0, 1);
        x.insertText(2, 0, 5);
        x.insertAttribute(1, 2, 30);
        x.insertAttribute(1, 0, 20);
        x.apply();
        return x;
    }

    /** Fills the list up to twenty updates that can be done. */
    static void fillList(Treequery x) {
        while (x.rename(0, 1) < 20) {
            continue;
        }
    }

    /** The children of a node, with a blank behind each. */
    static String children(Treequery x, int node) {
        return untilNone(place -> x.child(node, place));
    }

    /** What a path finds from the root, with a blank behind each. */
    static String found(Treequery x, int path) {
        return upTo(x.found(path, 0), place -> x.foundAt(path, place));
    }

    /** What a path finds from the root, ordered by values, with a blank behind each. */
    static String ordered(Treequery x, int path) {
        return upTo(x.found(path, 0), place -> x.ordered(path, place));
    }

    /** The nodes of a view, with a blank behind each. */
    static String viewed(Treequery x, int view) {
        return untilNone(place -> x.viewed(view, place));
    }

    /** The elements that are ranked for a word, with a blank behind each. */
    static String rank(Treequery x, int word) {
        return untilNone(place -> x.ranked(word, place));
    }

    private static String upTo(int end, IntUnaryOperator nodeAt) {
        StringBuilder told = new StringBuilder();
        for (int place = 0; place < end; place++) {
            told.append(nodeAt.applyAsInt(place)).append(' ');
        }
        return told.toString();
    }

    /** There are at most 60 nodes: a list without an end is cut behind them. */
    private static String untilNone(IntUnaryOperator nodeAt) {
        int end = 0;
        while (end <= 60 && nodeAt.applyAsInt(end) != Treequery.NONE) {
            end++;
        }
        return upTo(end, nodeAt);
    }

    /** All that the calls tell of the nodes, to see that nothing has changed. */
    static String all(Treequery x) {
        StringBuilder told = new StringBuilder();
        told.append(x.made()).append(' ').append(x.nodes()).append(' ').append(x.numbered()).append(' ').append(x.paths());
        for (int node = 0; node < 60; node++) {
            if (x.isThere(node)) {
                told.append('\n').append(node).append(": ").append(x.kind(node)).append(' ').append(x.name(node));
                told.append(' ').append(x.value(node)).append(' ').append(x.parent(node)).append(' ').append(x.space(node));
                told.append(' ').append(x.number(node)).append(' ').append(children(x, node));
            }
        }
        return told.toString();
    }

    /** Adds a path of one step. */
    static int path(Treequery x, int axis, int test) {
        int path = x.path();
        x.step(path, axis, test, Treequery.NONE);
        return path;
    }
}
