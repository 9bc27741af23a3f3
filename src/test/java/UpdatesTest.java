/** Promises 2 to 11: the updates that are collected, and how they are done. */
public final class UpdatesTest {
    private static final int NONE = Treequery.NONE;

    public static void main(String[] args) {
        insertElement();
        insertText();
        insertAttribute();
        remove();
        rename();
        setValue();
        move();
        declare();
        applyInOrder();
        applyWhatIsRemoved();
        applyClashes();
        applyTwins();
        applyTangles();
        applyWhatIsGone();
        applyTooMany();
        applyStrictly();
        forget();
        Due.end();
    }

    /** A call with one wrong argument throws, and leaves the list and the tree. */
    private static void wrong(Treequery x, String call, String want, java.util.concurrent.Callable<?> got) {
        String before = Sample.all(x);
        Due.throwing(call, want, got);
        Due.is(call + " leaves the tree", before, Sample.all(x));
    }

    private static void insertElement() {
        Treequery x = Sample.tree();
        Due.is("first insertElement", 1, x.insertElement(0, 3, 7));
        Due.is("second insertElement", 2, x.insertElement(5, 0, 0));
        wrong(x, "insertElement without node", Due.BOUNDS, () -> x.insertElement(11, 0, 1));
        wrong(x, "insertElement below 0", Due.BOUNDS, () -> x.insertElement(-1, 0, 1));
        wrong(x, "insertElement above", Due.BOUNDS, () -> x.insertElement(Integer.MAX_VALUE, 0, 1));
        wrong(x, "insertElement place 4 of 3", Due.BOUNDS, () -> x.insertElement(0, 4, 1));
        wrong(x, "insertElement place -1", Due.BOUNDS, () -> x.insertElement(0, -1, 1));
        wrong(x, "insertElement place and name", Due.BOUNDS, () -> x.insertElement(0, 4, 8));
        wrong(x, "insertElement into a text at 1", Due.BOUNDS, () -> x.insertElement(3, 1, 1));
        wrong(x, "insertElement name 8", Due.ARGUMENT, () -> x.insertElement(0, 0, 8));
        wrong(x, "insertElement name -1", Due.ARGUMENT, () -> x.insertElement(0, 0, -1));
        wrong(x, "insertElement name into a text", Due.ARGUMENT, () -> x.insertElement(3, 0, 8));
        wrong(x, "insertElement into a text", Due.STATE, () -> x.insertElement(3, 0, 1));
        wrong(x, "insertElement into an attribute", Due.STATE, () -> x.insertElement(4, 0, 1));
        Due.is("nothing is done yet", 11, x.nodes());
        Due.is("apply", 13, x.apply());
        Due.is("the element is there", 11, x.child(0, 3));
        Due.is("the element below", 12, x.child(5, 0));
        Due.is("its kind", Treequery.ELEMENT, x.kind(11));
        Due.is("its name", 7, x.name(11));
        Sample.fillList(x);
        wrong(x, "insertElement as the 21st", Due.STATE, () -> x.insertElement(0, 0, 1));
        wrong(x, "insertElement as the 21st, name", Due.ARGUMENT, () -> x.insertElement(0, 0, 8));
        Due.is("the list has 20", 20, x.forget());
    }

    private static void insertText() {
        Treequery x = Sample.tree();
        Due.is("insertText", 1, x.insertText(0, 3, 999));
        Due.is("insertText", 2, x.insertText(0, 0, 0));
        wrong(x, "insertText without node", Due.BOUNDS, () -> x.insertText(11, 0, 1));
        wrong(x, "insertText place", Due.BOUNDS, () -> x.insertText(0, 4, 1));
        wrong(x, "insertText place -1", Due.BOUNDS, () -> x.insertText(0, -1, 1000));
        wrong(x, "insertText value 1000", Due.ARGUMENT, () -> x.insertText(0, 0, 1000));
        wrong(x, "insertText value -1", Due.ARGUMENT, () -> x.insertText(0, 0, -1));
        wrong(x, "insertText into a text", Due.STATE, () -> x.insertText(3, 0, 1));
        wrong(x, "insertText into an attribute", Due.STATE, () -> x.insertText(9, 0, 1));
        Due.is("apply", 13, x.apply());
        Due.is("the first text", "12 1 2 3 11 ", Sample.children(x, 0));
        Due.is("its kind", Treequery.TEXT, x.kind(11));
        Due.is("its value", 999, x.value(11));
        Due.is("its name", NONE, x.name(11));
        Sample.fillList(x);
        wrong(x, "insertText as the 21st", Due.STATE, () -> x.insertText(0, 0, 1));
        wrong(x, "insertText as the 21st, place", Due.BOUNDS, () -> x.insertText(0, 9, 1));
        Due.is("the list has 20", 20, x.forget());
    }

    private static void insertAttribute() {
        Treequery x = Sample.tree();
        Due.is("insertAttribute", 1, x.insertAttribute(0, 0, 0));
        Due.is("insertAttribute", 2, x.insertAttribute(0, 7, 999));
        wrong(x, "insertAttribute without node", Due.BOUNDS, () -> x.insertAttribute(11, 8, 1));
        wrong(x, "insertAttribute name 8", Due.ARGUMENT, () -> x.insertAttribute(0, 8, 1));
        wrong(x, "insertAttribute name -1", Due.ARGUMENT, () -> x.insertAttribute(0, -1, 1));
        wrong(x, "insertAttribute value 1000", Due.ARGUMENT, () -> x.insertAttribute(0, 1, 1000));
        wrong(x, "insertAttribute value -1", Due.ARGUMENT, () -> x.insertAttribute(3, 1, -1));
        wrong(x, "insertAttribute into a text", Due.STATE, () -> x.insertAttribute(3, 1, 1));
        wrong(x, "insertAttribute into an attribute", Due.STATE, () -> x.insertAttribute(4, 1, 1));
        Due.is("apply", 13, x.apply());
        Due.is("its kind", Treequery.ATTRIBUTE, x.kind(12));
        Due.is("its name", 7, x.name(12));
        Due.is("its value", 999, x.value(12));
        Due.is("its element", 0, x.parent(12));
        int path = Sample.path(x, Treequery.ATTRIBUTES, Treequery.ANY);
        Due.is("attributes by rising names", "11 4 12 ", Sample.found(x, path));
        Sample.fillList(x);
        wrong(x, "insertAttribute as the 21st", Due.STATE, () -> x.insertAttribute(0, 1, 1));
        Due.is("the list has 20", 20, x.forget());
    }

    private static void remove() {
        Treequery x = Sample.tree();
        Due.is("remove", 1, x.remove(1));
        Due.is("remove an attribute", 2, x.remove(4));
        Due.is("remove a second time", 3, x.remove(4));
        wrong(x, "remove no node", Due.BOUNDS, () -> x.remove(11));
        wrong(x, "remove below 0", Due.BOUNDS, () -> x.remove(Integer.MIN_VALUE));
        wrong(x, "remove the root", Due.STATE, () -> x.remove(0));
        Due.is("apply", 5, x.apply());
        Due.is("what is below goes too", false, x.isThere(10) || x.isThere(5) || x.isThere(6));
        Due.is("the others stay", "2 3 ", Sample.children(x, 0));
        wrong(x, "remove what is gone", Due.BOUNDS, () -> x.remove(1));
        Sample.fillList(x);
        wrong(x, "remove as the 21st", Due.STATE, () -> x.remove(2));
        Due.is("the list has 20", 20, x.forget());
    }

    private static void rename() {
        Treequery x = Sample.tree();
        Due.is("rename", 1, x.rename(1, 7));
        Due.is("rename an attribute", 2, x.rename(10, 5));
        Due.is("rename the root", 3, x.rename(0, 6));
        wrong(x, "rename no node", Due.BOUNDS, () -> x.rename(60, 1));
        wrong(x, "rename no node, name", Due.BOUNDS, () -> x.rename(60, 9));
        wrong(x, "rename to 8", Due.ARGUMENT, () -> x.rename(1, 8));
        wrong(x, "rename to -1", Due.ARGUMENT, () -> x.rename(3, -1));
        wrong(x, "rename a text", Due.STATE, () -> x.rename(3, 1));
        Due.is("apply", 11, x.apply());
        Due.is("name", 7, x.name(1));
        Due.is("name of the attribute", 5, x.name(10));
        Due.is("name of the root", 6, x.name(0));
        int path = Sample.path(x, Treequery.DESCENDANT, 7);
        x.step(path, Treequery.ATTRIBUTES, Treequery.ANY, NONE);
        Due.is("the renamed one comes last", "9 10 ", Sample.found(x, path));
        Sample.fillList(x);
        wrong(x, "rename as the 21st", Due.STATE, () -> x.rename(1, 1));
        Due.is("the list has 20", 20, x.forget());
    }

    private static void setValue() {
        Treequery x = Sample.tree();
        Due.is("setValue", 1, x.setValue(6, 999));
        Due.is("setValue of an attribute", 2, x.setValue(4, 0));
        wrong(x, "setValue of no node", Due.BOUNDS, () -> x.setValue(11, 1));
        wrong(x, "setValue of no node, value", Due.BOUNDS, () -> x.setValue(-1, 1000));
        wrong(x, "setValue 1000", Due.ARGUMENT, () -> x.setValue(6, 1000));
        wrong(x, "setValue -1", Due.ARGUMENT, () -> x.setValue(1, -1));
        wrong(x, "setValue of an element", Due.STATE, () -> x.setValue(1, 5));
        Due.is("apply", 11, x.apply());
        Due.is("value", 999, x.value(6));
        Due.is("value of the element", 999, x.value(1));
        Due.is("value of the attribute", 0, x.value(4));
        Sample.fillList(x);
        wrong(x, "setValue as the 21st", Due.STATE, () -> x.setValue(6, 1));
        Due.is("the list has 20", 20, x.forget());
    }

    private static void move() {
        Treequery x = Sample.tree();
        Due.is("move", 1, x.move(6, 2, 2));
        Due.is("move an element", 2, x.move(7, 0, 0));
        wrong(x, "move no node", Due.BOUNDS, () -> x.move(11, 0, 0));
        wrong(x, "move into no node", Due.BOUNDS, () -> x.move(6, 11, 0));
        wrong(x, "move to place 4 of 3", Due.BOUNDS, () -> x.move(6, 0, 4));
        wrong(x, "move to place -1", Due.BOUNDS, () -> x.move(6, 0, -1));
        wrong(x, "move the root to no place", Due.BOUNDS, () -> x.move(0, 1, 9));
        wrong(x, "move the root", Due.STATE, () -> x.move(0, 1, 0));
        wrong(x, "move an attribute", Due.STATE, () -> x.move(4, 1, 0));
        wrong(x, "move into a text", Due.STATE, () -> x.move(5, 3, 0));
        wrong(x, "move into an attribute", Due.STATE, () -> x.move(5, 4, 0));
        Due.is("apply", 11, x.apply());
        Due.is("children of the root", "7 1 2 3 ", Sample.children(x, 0));
        Due.is("children of 2", "8 6 ", Sample.children(x, 2));
        Due.is("children of 1", "5 ", Sample.children(x, 1));
        Due.is("parent", 2, x.parent(6));
        x.move(1, 0, 1);
        x.move(3, 0, 0);
        x.apply();
        Due.is("moved to its own place and among its own", "3 7 1 2 ", Sample.children(x, 0));
        Sample.fillList(x);
        wrong(x, "move as the 21st", Due.STATE, () -> x.move(6, 0, 0));
        Due.is("the list has 20", 20, x.forget());
    }

    private static void declare() {
        Treequery x = Sample.tree();
        Due.is("declare", 1, x.declare(1, 3));
        Due.is("declare of the root", 2, x.declare(0, 1));
        wrong(x, "declare of no node", Due.BOUNDS, () -> x.declare(11, 4));
        wrong(x, "declare 4", Due.ARGUMENT, () -> x.declare(1, 4));
        wrong(x, "declare -2", Due.ARGUMENT, () -> x.declare(3, -2));
        wrong(x, "declare of a text", Due.STATE, () -> x.declare(3, 1));
        wrong(x, "declare of an attribute", Due.STATE, () -> x.declare(4, 1));
        Due.is("apply", 11, x.apply());
        Due.is("space", 3, x.space(5));
        Due.is("space of the others", 1, x.space(7));
        x.declare(1, NONE);
        x.apply();
        Due.is("space without its own", 1, x.space(5));
        Sample.fillList(x);
        wrong(x, "declare as the 21st", Due.STATE, () -> x.declare(1, 1));
        Due.is("the list has 20", 20, x.forget());
    }

    private static void applyInOrder() {
        Treequery x = Sample.tree();
        x.insertText(0, 1, 1);
        x.move(3, 0, 1);
        x.insertElement(0, 1, 2);
        x.insertAttribute(0, 1, 1);
        x.insertText(0, 3, 2);
        x.insertText(0, 0, 3);
        x.remove(1);
        Due.is("apply", 16 - 5, x.apply());
        Due.is("for each place what is put there, then what was", "15 11 3 12 2 14 ", Sample.children(x, 0));
        Due.is("numbers in the order of the list", Treequery.ATTRIBUTE, x.kind(13));
        Due.is("made", 16, x.made());
        Due.is("apply of nothing", 11, x.apply());
        Due.is("the list is empty", 1, x.rename(0, 3));
        x.move(2, 0, 0);
        x.move(15, 0, 0);
        x.move(14, 0, 6);
        x.apply();
        Due.is("moves in the order of the list", "2 15 11 3 12 14 ", Sample.children(x, 0));
    }

    private static void applyWhatIsRemoved() {
        Treequery x = Sample.tree();
        x.remove(1);
        x.remove(5);
        x.remove(1);
        x.insertText(1, 0, 1);
        x.insertAttribute(1, 2, 1);
        x.move(3, 1, 0);
        x.move(6, 2, 0);
        x.rename(1, 3);
        x.setValue(9, 3);
        Due.is("apply", 6, x.apply());
        Due.is("what is inserted below a removed node is made, and gone", 13, x.made());
        Due.is("it is gone", false, x.isThere(11) || x.isThere(12));
        Due.is("what is moved below it is gone", false, x.isThere(3));
        Due.is("what is moved from below it stays", "6 7 8 ", Sample.children(x, 2));
        x.remove(2);
        x.move(7, 7, 0);
        Due.throwing("moved into itself below a removed node", Due.STATE, x::apply);
        x.forget();
        x.insertText(0, 0, 4);
        Due.is("another text", 7, x.apply());
        Due.is("it gets the next number", 13, x.child(0, 0));
        x = Sample.tree();
        x.remove(5);
        x.move(1, 5, 0);
        Due.is("moved below its own child that is removed", 6, x.apply());
        Due.is("and gone with it", "2 3 ", Sample.children(x, 0));
    }

    private static void clash(String what, boolean isClash, Treequery x) {
        String before = Sample.all(x);
        if (isClash) {
            Due.throwing(what, Due.STATE, x::apply);
            Due.is(what + " leaves the tree", before, Sample.all(x));
            Due.is(what + " leaves the list", 2, x.forget());
        } else {
            Due.is(what, true, Due.answer(x::apply) instanceof Integer);
            Due.is(what + " is done", 0, x.forget());
        }
    }

    private static void applyClashes() {
        Treequery x = Sample.tree();
        x.rename(1, 1);
        x.rename(1, 1);
        clash("two RENAMEs", true, x);
        x.setValue(6, 1);
        x.setValue(6, 2);
        clash("two VALUEs", true, x);
        x.declare(1, 1);
        x.declare(1, NONE);
        clash("two DECLAREs", true, x);
        x.move(5, 0, 0);
        x.move(5, 0, 0);
        clash("two MOVEs", true, x);
        x.move(5, 0, 0);
        x.remove(5);
        clash("MOVE and REMOVE", true, x);
        x.remove(5);
        x.move(5, 0, 0);
        clash("REMOVE and MOVE", true, x);
        x.rename(1, 3);
        x.rename(2, 3);
        clash("RENAMEs of two nodes", false, x);
        x.rename(1, 1);
        x.declare(1, 1);
        clash("RENAME and DECLARE", false, x);
        x.rename(4, 1);
        x.setValue(4, 1);
        clash("RENAME and VALUE", false, x);
        x.rename(1, 1);
        x.move(1, 0, 0);
        clash("RENAME and MOVE", false, x);
        x.rename(7, 1);
        x.remove(7);
        clash("RENAME and REMOVE", false, x);
        x.remove(5);
        x.remove(5);
        clash("two REMOVEs", false, x);
        x.insertText(0, 0, 1);
        x.insertText(0, 0, 1);
        clash("two INSERTs", false, x);
    }

    private static void applyTwins() {
        Treequery x = Sample.tree();
        x.insertAttribute(1, 2, 1);
        x.insertAttribute(1, 5, 1);
        clash("an attribute of a name that is there", true, x);
        x.insertAttribute(1, 3, 1);
        x.insertAttribute(1, 3, 1);
        clash("two new attributes of one name", true, x);
        x.rename(9, 0);
        x.rename(4, 0);
        clash("an attribute renamed as another one", true, x);
        x.rename(9, 3);
        x.insertAttribute(1, 2, 1);
        clash("an attribute in the place of a renamed one", false, x);
        x.rename(9, 0);
        x.rename(10, 3);
        clash("two attributes that change their names", false, x);
        x.remove(9);
        x.insertAttribute(1, 0, 1);
        clash("an attribute in the place of a removed one", false, x);
        x.insertAttribute(1, 0, 1);
        x.remove(1);
        clash("twins of an element that is gone then", false, x);
    }

    private static void applyTangles() {
        Treequery x = Sample.tree();
        x.move(1, 1, 0);
        x.rename(2, 5);
        clash("a node moved into itself", true, x);
        x.move(1, 5, 0);
        x.rename(2, 5);
        clash("a node moved below itself", true, x);
        x.move(1, 2, 0);
        x.move(2, 1, 0);
        clash("two nodes moved into each other", true, x);
        x.move(1, 7, 0);
        x.move(2, 5, 0);
        clash("two nodes moved below each other", true, x);
        x.move(5, 0, 0);
        x.move(1, 5, 0);
        clash("a node moved below what leaves it", false, x);
        Due.is("its parent", 5, x.parent(1));
    }

    private static void applyWhatIsGone() {
        Treequery x = Sample.tree();
        x.keep();
        x.remove(1);
        x.remove(3);
        x.apply();
        x.keep();
        x.take(0);
        x.rename(1, 2);
        Due.throwing("take with a list", Due.STATE, () -> x.take(1));
        Due.is("the list stays", 1, x.forget());
        x.remove(5);
        x.rename(5, 2);
        Due.is("both of a node that goes", 10, x.apply());
        x.insertText(0, 3, 1);
        x.remove(3);
        Due.is("a place is that of the tree ahead", 10, x.apply());
    }

    private static void applyTooMany() {
        Treequery x = new Treequery();
        for (int round = 0; round < 2; round++) {
            for (int i = 0; i < 20; i++) {
                x.insertText(0, 0, i);
            }
            x.apply();
        }
        for (int i = 0; i < 20; i++) {
            x.insertText(0, 0, i);
        }
        String before = Sample.all(x);
        Due.throwing("61 nodes", Due.STATE, x::apply);
        Due.is("61 nodes leave the tree", before, Sample.all(x));
        Due.is("61 nodes leave the list", 20, x.forget());
        for (int i = 0; i < 19; i++) {
            x.insertText(0, 0, i);
        }
        Due.is("60 nodes", 60, x.apply());
        Due.is("made", 60, x.made());
        x.remove(1);
        Due.is("one goes", 59, x.apply());
        x.insertText(0, 0, 1);
        Due.throwing("a 61st node in all", Due.STATE, x::apply);
        Due.is("the list stays", 1, x.forget());
        Due.is("the last node", 0, x.parent(59));
        Due.throwing("no node 60", Due.BOUNDS, () -> x.parent(60));
    }

    private static void applyStrictly() {
        Treequery x = new Treequery();
        x.nameType(0, 0);
        x.nameType(1, 1);
        x.arc(0, 0, 1, 0);
        x.setStrict(true);
        x.insertElement(0, 0, 2);
        String before = Sample.all(x);
        Due.throwing("an element of no type", Due.STATE, x::apply);
        Due.is("it leaves the tree", before, Sample.all(x));
        Due.is("it leaves the list", 1, x.forget());
        x.insertElement(0, 0, 1);
        Due.is("an element of a type", 2, x.apply());
        x.rename(1, 2);
        Due.throwing("a name of no type", Due.STATE, x::apply);
        Due.is("the name stays", 1, x.name(1));
        x.forget();
        x.rename(1, 2);
        x.remove(1);
        Due.is("the tree then counts", 1, x.apply());
    }

    private static void forget() {
        Treequery x = Sample.tree();
        Due.is("forget of nothing", 0, x.forget());
        x.remove(1);
        x.insertText(0, 0, 1);
        Due.is("forget", 2, x.forget());
        Due.is("forget again", 0, x.forget());
        Due.is("nothing is done", 11, x.apply());
        Due.is("nothing is made", 11, x.made());
    }
}
