/** Promises 50 to 56: words, versions and readers. */
public final class VersionsTest {
    private static final int NONE = Treequery.NONE;
    private static final int ANY = Treequery.ANY;

    public static void main(String[] args) {
        ranked();
        rankedClosely();
        keepAndTake();
        takeAndMake();
        takeWrong();
        distances();
        distancesOfLabels();
        distanceByMoves();
        distanceOfAll();
        distanceWrong();
        odds();
        oddsByPlaces();
        hide();
        hideRoot();
        isSeen();
        Due.end();
    }

    private static void ranked() {
        Treequery x = Sample.tree();
        Due.is("9 is all of 1 and a third of 0", "1 0 ", Sample.rank(x, 9));
        Due.is("5 is all of 2 and two thirds of 0", "2 0 ", Sample.rank(x, 5));
        Due.is("a word of an attribute is none", "", Sample.rank(x, 7));
        Due.is("no such word", NONE, x.ranked(0, 0));
        Due.is("far away", NONE, x.ranked(5, Integer.MAX_VALUE));
        Due.throwing("place -1", Due.BOUNDS, () -> x.ranked(5, -1));
        Due.throwing("place -1 and word", Due.BOUNDS, () -> x.ranked(1000, -1));
        Due.throwing("word 1000", Due.ARGUMENT, () -> x.ranked(1000, 0));
        Due.throwing("word -1", Due.ARGUMENT, () -> x.ranked(-1, 0));
        x.insertText(1, 2, 5);
        x.setValue(6, 5);
        x.apply();
        Due.is("of the same those ahead", "0 1 2 ", Sample.rank(x, 5));
    }

    /** Quotients that are close to one another, and texts deep below. */
    private static void rankedClosely() {
        Treequery x = new Treequery();
        x.insertElement(0, 0, 1);
        x.insertElement(0, 0, 2);
        x.apply();
        for (int i = 0; i < 7; i++) {
            x.insertText(1, 0, i < 3 ? 1 : 2);
        }
        x.insertElement(2, 0, 3);
        x.apply();
        for (int i = 0; i < 5; i++) {
            x.insertText(10, 0, i < 2 ? 1 : 2);
        }
        x.apply();
        Due.is("3 of 7, 5 of 12, 2 of 5", "1 0 2 10 ", Sample.rank(x, 1));
        Due.is("3 of 5, 7 of 12, 4 of 7", "2 10 0 1 ", Sample.rank(x, 2));
    }

    private static void keepAndTake() {
        Treequery x = Sample.tree();
        String before = Sample.all(x);
        Due.is("keep", 0, x.keep());
        Due.is("keep leaves the tree", before, Sample.all(x));
        x.remove(1);
        x.rename(2, 6);
        x.setValue(3, 99);
        x.declare(0, 3);
        x.move(7, 0, 0);
        x.setValue(4, 8);
        x.apply();
        Due.is("keep", 1, x.keep());
        Due.is("take", 11, x.take(0));
        Due.is("children", "1 2 3 ", Sample.children(x, 0));
        Due.is("names", "2 1", x.name(2) + " " + x.name(7));
        Due.is("values", "5 7", x.value(3) + " " + x.value(4));
        Due.is("spaces", 0, x.space(0));
        StringBuilder numbers = new StringBuilder();
        for (int node = 0; node < 11; node++) {
            numbers.append(x.number(node)).append(' ');
        }
        Due.is("numbers", "16 32 80 128 -1 48 64 96 112 -1 -1 ", numbers.toString());
        Due.is("numbered", 0, x.numbered());
        Due.is("take the other one", 6, x.take(1));
        Due.is("children", "7 2 3 ", Sample.children(x, 0));
        Due.is("space", 3, x.space(7));
        for (int version = 2; version < 6; version++) {
            Due.is("keep", version, x.keep());
        }
        Due.throwing("a seventh version", Due.STATE, x::keep);
        Due.is("the first one is still kept", 11, x.take(0));
    }

    private static void takeAndMake() {
        Treequery x = Sample.tree();
        x.keep();
        x.insertElement(0, 0, 1);
        x.insertText(0, 0, 1);
        x.apply();
        x.keep();
        Due.is("take", 11, x.take(0));
        Due.is("those that are not in it are gone", false, x.isThere(11) || x.isThere(12));
        Due.throwing("gone", Due.BOUNDS, () -> x.kind(11));
        Due.is("made stays", 13, x.made());
        x.insertElement(0, 0, 2);
        x.apply();
        Due.is("the next number", 13, x.child(0, 0));
        Due.is("take a later one", 13, x.take(1));
        Due.is("there again", 12, x.child(0, 1));
        Due.is("gone now", false, x.isThere(13));
    }

    private static void takeWrong() {
        Treequery x = new Treequery();
        x.nameType(0, 0);
        x.keep();
        x.insertText(0, 0, 1);
        x.apply();
        x.keep();
        Due.throwing("no version 2", Due.BOUNDS, () -> x.take(2));
        Due.throwing("no version -1", Due.BOUNDS, () -> x.take(-1));
        Due.throwing("no version 6", Due.BOUNDS, () -> x.take(6));
        x.insertText(0, 0, 1);
        Due.throwing("a list", Due.STATE, () -> x.take(0));
        Due.throwing("a list and no version", Due.BOUNDS, () -> x.take(2));
        Due.is("the list stays", 1, x.forget());
        Due.is("the tree stays", 2, x.nodes());
        x.take(0);
        x.setStrict(true);
        Due.throwing("not valid", Due.STATE, () -> x.take(1));
        Due.is("the tree stays", 1, x.nodes());
        Due.is("a valid one", 1, x.take(0));
        x.setStrict(false);
        Due.is("not strict", 2, x.take(1));
    }

    private static void distances() {
        Treequery x = Sample.tree();
        x.keep();
        Due.is("to itself", 0, x.distance(0, 0));
        x.insertText(0, 0, 1);
        x.apply();
        x.keep();
        Due.is("one in", 1, x.distance(0, 1));
        Due.is("one out", 1, x.distance(1, 0));
        x.remove(1);
        x.apply();
        x.keep();
        Due.is("five out", 5, x.distance(1, 2));
        Due.is("four out, and a text becomes the other one", 5, x.distance(0, 2));
        x.take(0);
        x.move(5, 0, 0);
        x.move(6, 0, 0);
        x.remove(1);
        x.apply();
        x.keep();
        Due.is("an element out, its children in its place, its attributes out", 3, x.distance(0, 3));
        x.take(0);
        x.insertElement(0, 0, 6);
        x.apply();
        x.move(1, 12, 0);
        x.move(2, 12, 0);
        x.apply();
        x.keep();
        Due.is("an element in round two", 1, x.distance(0, 4));
        Due.is("asked again", 1, x.distance(0, 4));
        Due.is("the others as before", 5, x.distance(2, 0));
    }

    private static void distancesOfLabels() {
        Treequery x = Sample.tree();
        x.keep();
        x.rename(1, 7);
        x.declare(1, 2);
        x.apply();
        x.keep();
        Due.is("name and space at once", 1, x.distance(0, 1));
        x.setValue(3, 6);
        x.setValue(4, 6);
        x.apply();
        x.keep();
        Due.is("values", 2, x.distance(1, 2));
        Due.is("all", 3, x.distance(0, 2));
        x.rename(0, 5);
        x.apply();
        x.keep();
        Due.is("the root", 1, x.distance(2, 3));
        x.remove(3);
        x.insertElement(0, 3, 5);
        x.apply();
        x.keep();
        Due.is("a text becomes an element", 1, x.distance(3, 4));
        x.rename(10, 3);
        x.apply();
        x.keep();
        Due.is("an attribute changes its name and place", 2, x.distance(4, 5));
    }

    private static void distanceByMoves() {
        Treequery x = new Treequery();
        for (int name = 1; name < 6; name++) {
            x.insertElement(0, 0, name);
        }
        x.apply();
        x.keep();
        x.move(1, 0, 5);
        x.apply();
        x.keep();
        Due.is("a move is out and in", 2, x.distance(0, 1));
        x.take(0);
        x.rename(0, 1);
        x.remove(1);
        x.apply();
        x.keep();
        Due.is("one out, the root another name", 2, x.distance(0, 2));
        x.take(0);
        x.insertElement(0, 0, 0);
        x.apply();
        for (int node = 1; node < 6; node++) {
            x.move(node, 6, 0);
        }
        x.rename(0, 7);
        x.apply();
        x.keep();
        Due.is("a root in above the root", 1, x.distance(0, 3));
        Due.is("and out again", 1, x.distance(3, 0));
    }

    /** Sixty nodes, in a row and in a chain. */
    private static void distanceOfAll() {
        Treequery x = new Treequery();
        x.keep();
        for (int i = 0; i < 59; i++) {
            x.insertElement(0, 0, 1);
            if (i % 20 == 18) {
                x.apply();
            }
        }
        x.apply();
        x.keep();
        Due.is("59 in", 59, x.distance(0, 1));
        for (int node = 59; node > 1; node--) {
            x.move(node, node - 1, 0);
            if (node % 20 == 0) {
                x.apply();
            }
        }
        x.apply();
        x.keep();
        Due.is("59 out", 59, x.distance(2, 0));
        Due.is("a row into a chain: one stays, and below it all but one go and come", 58 * 2, x.distance(1, 2));
        x.rename(0, 2);
        x.rename(59, 3);
        x.apply();
        x.keep();
        Due.is("both ends of the chain", 2, x.distance(2, 3));
        Due.is("asked again", 58 * 2, x.distance(2, 1));
    }

    private static void distanceWrong() {
        Treequery x = Sample.tree();
        x.keep();
        Due.throwing("no version 1", Due.BOUNDS, () -> x.distance(0, 1));
        Due.throwing("no version 1", Due.BOUNDS, () -> x.distance(1, 0));
        Due.throwing("no version -1", Due.BOUNDS, () -> x.distance(-1, 0));
        Due.throwing("no version 6", Due.BOUNDS, () -> x.distance(0, 6));
        Due.throwing("odds of no version", Due.BOUNDS, () -> x.odds(1, 0, 0));
        Due.throwing("odds of no version", Due.BOUNDS, () -> x.odds(0, 1, 0));
        Due.throwing("odds of no version", Due.BOUNDS, () -> x.odds(0, 0, 1));
        Due.throwing("odds of version -1", Due.BOUNDS, () -> x.odds(0, 0, -1));
        Due.is("the only one", 0, x.odds(0, 0, 0));
    }

    private static void odds() {
        Treequery x = Sample.tree();
        x.keep();
        x.rename(1, 6);
        x.rename(2, 6);
        x.setValue(3, 1);
        x.setValue(4, 1);
        x.remove(8);
        x.declare(7, 1);
        x.apply();
        x.keep();
        x.take(0);
        x.rename(1, 7);
        x.rename(2, 6);
        x.move(3, 1, 0);
        x.remove(8);
        x.declare(5, 2);
        x.declare(7, 2);
        x.insertText(5, 0, 1);
        x.apply();
        x.keep();
        Due.is("1 by names, 3 by value and parent, 7 by spaces", 3, x.odds(0, 1, 2));
        Due.is("in another order", 3, x.odds(2, 0, 1));
        Due.is("two of one", 0, x.odds(0, 1, 1));
        Due.is("two of one", 0, x.odds(0, 1, 0));
        Due.is("one alone", 0, x.odds(2, 2, 2));
    }

    private static void oddsByPlaces() {
        Treequery x = Sample.tree();
        x.keep();
        x.remove(6);
        x.setValue(9, 31);
        x.move(5, 0, 0);
        x.apply();
        x.keep();
        x.take(0);
        x.setValue(6, 10);
        x.remove(9);
        x.move(5, 2, 0);
        x.insertText(0, 0, 6);
        x.apply();
        x.keep();
        Due.is("gone and changed, changed and gone, moved twice", 3, x.odds(0, 1, 2));
        x.take(1);
        x.setValue(8, 50);
        x.move(3, 0, 0);
        x.apply();
        x.keep();
        x.take(0);
        x.move(3, 0, 1);
        x.setValue(8, 50);
        x.apply();
        x.keep();
        Due.is("the place among the children does not count, nor the value of an element", 0, x.odds(0, 3, 4));
    }

    private static void hide() {
        Treequery x = Sample.tree();
        for (int path = 0; path < 4; path++) {
            Sample.path(x, Treequery.DESCENDANT, path + 3);
        }
        Due.is("hidden", true, x.hide(0));
        Due.is("shown again", false, x.hide(0));
        Due.is("hidden", true, x.hide(1) && x.hide(2) && x.hide(3));
        Due.throwing("a fourth one", Due.STATE, () -> x.hide(0));
        Due.throwing("no path 4", Due.BOUNDS, () -> x.hide(4));
        Due.throwing("no path -1", Due.BOUNDS, () -> x.hide(-1));
        Due.is("4 is hidden by name", false, x.isSeen(5));
        Due.is("shown again", false, x.hide(1));
        Due.is("seen then", true, x.isSeen(5));
        Due.is("room for another one", true, x.hide(0));
        Due.throwing("again a fourth one", Due.STATE, () -> x.hide(1));
        Due.is("of those that are hidden one is shown", false, x.hide(3));
    }

    private static void hideRoot() {
        Treequery x = Sample.tree();
        int root = x.path();
        x.hide(root);
        Due.is("the root itself aside", true, x.isSeen(0) && x.isSeen(1) && x.isSeen(4));
        int all = Sample.path(x, Treequery.DESCENDANT_OR_SELF, ANY);
        x.hide(all);
        Due.is("the root is always seen", true, x.isSeen(0));
        Due.is("its attributes were not found", true, x.isSeen(4));
        Due.is("the others were", false, x.isSeen(1) || x.isSeen(3));
        Due.is("attributes below these", false, x.isSeen(9));
        x.readAsReader(true);
        Due.is("only the root", 1, x.found(all, 0));
    }

    private static void isSeen() {
        Treequery x = Sample.tree();
        int twos = Sample.path(x, Treequery.DESCENDANT, 2);
        Due.is("at first all", true, x.isSeen(2) && x.isSeen(8));
        x.hide(twos);
        Due.is("what is found", false, x.isSeen(2));
        Due.is("and below it", false, x.isSeen(7) || x.isSeen(8));
        Due.is("nothing else", true, x.isSeen(1) && x.isSeen(3) && x.isSeen(4) && x.isSeen(9));
        Due.throwing("no node", Due.BOUNDS, () -> x.isSeen(11));
        Due.throwing("node -1", Due.BOUNDS, () -> x.isSeen(-1));
        x.rename(1, 2);
        x.rename(2, 1);
        x.apply();
        Due.is("by the tree as it is", "true false", x.isSeen(8) + " " + x.isSeen(9));
        x.readAsReader(true);
        Due.is("all else is by all nodes", 4, x.name(5));
        x.step(twos, Treequery.CHILD, ANY, NONE);
        Due.is("by the path as it is", "true false", x.isSeen(1) + " " + x.isSeen(5));
        int ones = Sample.path(x, Treequery.DESCENDANT, 1);
        x.hide(ones);
        Due.is("what is hidden is found for all", false, x.isSeen(2) || x.isSeen(5));
        x.remove(5);
        x.apply();
        Due.throwing("a gone node", Due.BOUNDS, () -> x.isSeen(5));
    }
}
