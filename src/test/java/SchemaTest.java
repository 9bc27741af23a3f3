import java.util.concurrent.Callable;

/** Promises 36 to 44: types of elements, whether the tree is valid, and the types of paths. */
public final class SchemaTest {
    private static final int NONE = Treequery.NONE;
    private static final int ANY = Treequery.ANY;
    private static final int TEXT_BIT = 64;
    private static final int ATTRIBUTE_BIT = 128;

    public static void main(String[] args) {
        nameType();
        arc();
        setFinal();
        allowTexts();
        attribute();
        setStrict();
        strictSchemaStays();
        validity();
        severalTypes();
        sequences();
        types();
        inferAxes();
        inferTests();
        inferFromNothing();
        inferUnreachable();
        inferRepeat();
        inferWrong();
        Due.end();
    }

    /** What the schema says, by what it takes to set each part and set it back. */
    private static String told(Treequery x) {
        StringBuilder told = new StringBuilder();
        for (int type = 0; type < 6; type++) {
            int name = x.nameType(type, 0);
            boolean isAllowed = x.allowTexts(type, true);
            x.nameType(type, name);
            x.allowTexts(type, isAllowed);
            told.append(name).append(isAllowed);
            for (int i = 0; i < 8; i++) {
                int what = x.attribute(type, i, 0);
                x.attribute(type, i, what);
                told.append(what);
            }
            for (int state = 0; state < 4; state++) {
                boolean isFinal = x.setFinal(type, state, true);
                x.setFinal(type, state, isFinal);
                told.append(isFinal);
            }
        }
        return told.toString();
    }

    private static void wrong(Treequery x, String call, String want, Callable<?> got) {
        String before = told(x);
        Due.throwing(call, want, got);
        Due.is(call + " leaves the schema", before, told(x));
    }

    private static void nameType() {
        Treequery x = new Treequery();
        Due.is("at first none", NONE, x.nameType(0, 7));
        Due.is("the name before", 7, x.nameType(0, 0));
        Due.is("another type", NONE, x.nameType(5, 0));
        Due.is("to none", 0, x.nameType(5, NONE));
        Due.is("was none", NONE, x.nameType(5, NONE));
        wrong(x, "type 6", Due.BOUNDS, () -> x.nameType(6, 9));
        wrong(x, "type -1", Due.BOUNDS, () -> x.nameType(-1, 0));
        wrong(x, "name 8", Due.ARGUMENT, () -> x.nameType(0, 8));
        wrong(x, "name -2", Due.ARGUMENT, () -> x.nameType(0, -2));
        Due.is("valid by the name", true, x.isValid());
        x.nameType(0, NONE);
        Due.is("without a name it is for no element", false, x.isValid());
    }

    private static void arc() {
        Treequery x = new Treequery();
        Due.is("made", true, x.arc(0, 3, 5, 3));
        Due.is("made", true, x.arc(0, 3, 5, 2));
        Due.is("taken away", false, x.arc(0, 3, 5, 3));
        Due.is("the other one too", false, x.arc(0, 3, 5, 2));
        Due.is("made again", true, x.arc(0, 3, 5, 3));
        wrong(x, "type 6", Due.BOUNDS, () -> x.arc(6, 0, 0, 0));
        wrong(x, "type -1", Due.BOUNDS, () -> x.arc(-1, 0, 0, 0));
        wrong(x, "from 4", Due.BOUNDS, () -> x.arc(0, 4, 0, 0));
        wrong(x, "from -1", Due.BOUNDS, () -> x.arc(0, -1, 0, 0));
        wrong(x, "by 6", Due.BOUNDS, () -> x.arc(0, 0, 6, 0));
        wrong(x, "by -1", Due.BOUNDS, () -> x.arc(0, 0, -1, 0));
        wrong(x, "to 4", Due.BOUNDS, () -> x.arc(0, 0, 0, 4));
        wrong(x, "to -1", Due.BOUNDS, () -> x.arc(0, 0, 0, -1));
    }

    private static void setFinal() {
        Treequery x = new Treequery();
        Due.is("state 0 is final at first", true, x.setFinal(5, 0, true));
        Due.is("the others are not", false, x.setFinal(5, 1, true));
        Due.is("now it is", true, x.setFinal(5, 1, false));
        Due.is("not any more", false, x.setFinal(5, 1, false));
        Due.is("0 still is", true, x.setFinal(5, 0, false));
        Due.is("not now", false, x.setFinal(5, 0, true));
        wrong(x, "type 6", Due.BOUNDS, () -> x.setFinal(6, 0, true));
        wrong(x, "type -1", Due.BOUNDS, () -> x.setFinal(-1, 0, true));
        wrong(x, "state 4", Due.BOUNDS, () -> x.setFinal(0, 4, true));
        wrong(x, "state -1", Due.BOUNDS, () -> x.setFinal(0, -1, false));
        x.nameType(0, 0);
        x.setFinal(0, 0, false);
        Due.is("no children lead nowhere", false, x.isValid());
    }

    private static void allowTexts() {
        Treequery x = new Treequery();
        Due.is("not at first", false, x.allowTexts(5, true));
        Due.is("it did", true, x.allowTexts(5, true));
        Due.is("it did", true, x.allowTexts(5, false));
        Due.is("not any more", false, x.allowTexts(5, false));
        wrong(x, "type 6", Due.BOUNDS, () -> x.allowTexts(6, true));
        wrong(x, "type -1", Due.BOUNDS, () -> x.allowTexts(-1, true));
        x.nameType(0, 0);
        x.insertText(0, 0, 1);
        x.apply();
        Due.is("a text", false, x.isValid());
        x.allowTexts(0, true);
        Due.is("a text that is allowed", true, x.isValid());
    }

    private static void attribute() {
        Treequery x = new Treequery();
        x.nameType(0, 0);
        Due.is("barred at first", Treequery.BARRED, x.attribute(0, 7, Treequery.NEEDED));
        Due.is("needed", false, x.isValid());
        Due.is("was needed", Treequery.NEEDED, x.attribute(0, 7, Treequery.ALLOWED));
        Due.is("allowed", true, x.isValid());
        x.insertAttribute(0, 7, 1);
        x.apply();
        Due.is("allowed and there", true, x.isValid());
        Due.is("was allowed", Treequery.ALLOWED, x.attribute(0, 7, Treequery.NEEDED));
        Due.is("needed and there", true, x.isValid());
        x.attribute(0, 7, Treequery.BARRED);
        Due.is("barred and there", false, x.isValid());
        wrong(x, "type 6", Due.BOUNDS, () -> x.attribute(6, 9, 0));
        wrong(x, "type -1", Due.BOUNDS, () -> x.attribute(-1, 0, 0));
        wrong(x, "name 8", Due.ARGUMENT, () -> x.attribute(0, 8, 0));
        wrong(x, "name -1", Due.ARGUMENT, () -> x.attribute(0, -1, 0));
        wrong(x, "what 3", Due.ARGUMENT, () -> x.attribute(0, 0, 3));
        wrong(x, "what -1", Due.ARGUMENT, () -> x.attribute(0, 0, -1));
    }

    private static void setStrict() {
        Treequery x = new Treequery();
        Due.throwing("strict with a tree that is not valid", Due.STATE, () -> x.setStrict(true));
        Due.is("not strict", false, x.setStrict(false));
        x.nameType(0, 0);
        Due.is("strict", false, x.setStrict(true));
        Due.is("it was", true, x.setStrict(true));
        Due.is("it was", true, x.setStrict(false));
        Due.is("not any more", false, x.setStrict(false));
    }

    private static void strictSchemaStays() {
        Treequery x = new Treequery();
        x.nameType(0, 0);
        x.setStrict(true);
        Due.throwing("nameType", Due.STATE, () -> x.nameType(0, 0));
        Due.throwing("nameType of type 6", Due.BOUNDS, () -> x.nameType(6, 0));
        Due.throwing("nameType 8", Due.ARGUMENT, () -> x.nameType(0, 8));
        Due.throwing("arc", Due.STATE, () -> x.arc(0, 0, 0, 0));
        Due.throwing("arc to 4", Due.BOUNDS, () -> x.arc(0, 0, 0, 4));
        Due.throwing("setFinal", Due.STATE, () -> x.setFinal(0, 0, false));
        Due.throwing("setFinal of state 4", Due.BOUNDS, () -> x.setFinal(0, 4, false));
        Due.throwing("allowTexts", Due.STATE, () -> x.allowTexts(0, true));
        Due.throwing("allowTexts of type 6", Due.BOUNDS, () -> x.allowTexts(6, true));
        Due.throwing("attribute", Due.STATE, () -> x.attribute(0, 0, 2));
        Due.throwing("attribute 8", Due.ARGUMENT, () -> x.attribute(0, 8, 2));
        Due.is("still valid", true, x.isValid());
        x.setStrict(false);
        Due.is("nothing was changed", "0falsefalse0", "" + x.nameType(0, 0) + x.allowTexts(0, false)
                + !x.setFinal(0, 0, true) + x.attribute(0, 0, 0));
        Due.is("no arc was made", true, x.arc(0, 0, 0, 0));
    }

    private static void validity() {
        Treequery x = new Treequery();
        Due.is("no types", false, x.isValid());
        x.nameType(1, 0);
        Due.is("of another type than 0", false, x.isValid());
        Due.is("but of that", 2, x.types(0));
        x.nameType(0, 0);
        Due.is("of both", 3, x.types(0));
        Due.is("valid", true, x.isValid());
        x.insertElement(0, 0, 1);
        x.apply();
        Due.is("a child without an arc", false, x.isValid());
        x.arc(0, 0, 2, 1);
        x.nameType(2, 1);
        Due.is("not to a final state", false, x.isValid());
        x.setFinal(0, 1, true);
        Due.is("to a final state", true, x.isValid());
        x.insertElement(1, 0, 5);
        x.apply();
        Due.is("a grandchild of no type", false, x.isValid());
        x.rename(0, 3);
        x.remove(2);
        x.apply();
        Due.is("another name of the root", false, x.isValid());
        Due.is("the child is still", 4, x.types(1));
    }

    /** An element may be of several types, of which only some lead to the end. */
    private static void severalTypes() {
        Treequery x = new Treequery();
        x.nameType(0, 0);
        x.nameType(1, 1);
        x.nameType(2, 1);
        x.insertElement(0, 0, 1);
        x.insertElement(0, 0, 1);
        x.apply();
        Due.is("of two types", 6, x.types(1));
        x.arc(0, 0, 1, 1);
        x.arc(0, 0, 2, 2);
        x.arc(0, 2, 1, 3);
        x.setFinal(0, 3, true);
        Due.is("the first as 2, the second as 1", true, x.isValid());
        x.attribute(2, 0, Treequery.NEEDED);
        Due.is("then of one", 2, x.types(1));
        Due.is("the first cannot be 2", false, x.isValid());
        x.insertAttribute(2, 0, 1);
        x.apply();
        Due.is("the second can, but not the first", false, x.isValid());
        x.move(2, 0, 0);
        x.apply();
        Due.is("the other way round", true, x.isValid());
    }

    private static void sequences() {
        Treequery x = new Treequery();
        x.nameType(0, 0);
        x.nameType(1, 1);
        x.nameType(2, 2);
        x.allowTexts(0, true);
        x.arc(0, 0, 1, 1);
        x.arc(0, 1, 2, 0);
        for (int pair = 0; pair < 5; pair++) {
            x.insertElement(0, 0, 1);
            x.insertText(0, 0, 4);
            x.insertElement(0, 0, 2);
        }
        x.apply();
        Due.is("pairs, texts aside", true, x.isValid());
        x.insertElement(0, 0, 1);
        x.apply();
        Due.is("half a pair more", false, x.isValid());
        x.insertElement(0, 16, 2);
        x.apply();
        Due.is("not in their order", false, x.isValid());
        x.move(17, 0, 1);
        x.apply();
        Due.is("in their order", true, x.isValid());
    }

    private static void types() {
        Treequery x = Sample.tree();
        x.nameType(3, 1);
        x.nameType(5, 4);
        Due.is("an element of a type", 32, x.types(5));
        Due.is("an element of another one", 8, x.types(7));
        Due.is("barred attributes", 0, x.types(1));
        Due.is("a text", 0, x.types(3));
        Due.is("an attribute", 0, x.types(9));
        Due.throwing("no node", Due.BOUNDS, () -> x.types(11));
        Due.throwing("node -1", Due.BOUNDS, () -> x.types(-1));
        x.attribute(3, 0, Treequery.ALLOWED);
        x.attribute(3, 2, Treequery.NEEDED);
        x.allowTexts(3, true);
        x.arc(3, 0, 5, 0);
        Due.is("all in order", 8, x.types(1));
        Due.is("the other one lacks an attribute", 0, x.types(7));
        x.remove(1);
        x.apply();
        Due.throwing("a gone node", Due.BOUNDS, () -> x.types(1));
    }

    /** 0 can have 1 and 2; 1 can have 3, texts and attributes; 2 can have 3 and texts; 3 can have 3 and attributes. */
    private static Treequery grammar() {
        Treequery x = new Treequery();
        int[] names = {0, 1, 2, 1, 5, 5};
        for (int type = 0; type < 6; type++) {
            x.nameType(type, names[type]);
        }
        x.arc(0, 0, 1, 1);
        x.arc(0, 1, 2, 0);
        x.arc(1, 3, 3, 2);
        x.arc(2, 0, 3, 0);
        x.arc(3, 0, 3, 0);
        x.allowTexts(1, true);
        x.allowTexts(2, true);
        x.attribute(1, 4, Treequery.ALLOWED);
        x.attribute(3, 7, Treequery.NEEDED);
        x.arc(4, 0, 0, 0);
        x.arc(4, 0, 5, 0);
        x.arc(4, 0, 3, 0);
        x.allowTexts(4, true);
        x.attribute(4, 0, Treequery.ALLOWED);
        return x;
    }

    private static int inferred(int... axesAndTests) {
        Treequery x = grammar();
        int path = x.path();
        for (int i = 0; i < axesAndTests.length; i += 2) {
            x.step(path, axesAndTests[i], axesAndTests[i + 1], NONE);
        }
        return x.infer(path);
    }

    private static void inferAxes() {
        int c = Treequery.CHILD;
        Due.is("no step", 1, inferred());
        Due.is("SELF", 1, inferred(Treequery.SELF, ANY));
        Due.is("CHILD", 6, inferred(c, ANY));
        Due.is("CHILD twice", 8 + TEXT_BIT, inferred(c, ANY, c, ANY));
        Due.is("CHILD of what has itself", 8, inferred(c, ANY, c, ANY, c, ANY));
        Due.is("PARENT of the root", 0, inferred(Treequery.PARENT, ANY));
        Due.is("PARENT", 1, inferred(c, 1, Treequery.PARENT, ANY));
        Due.is("PARENT of many", 2 + 4 + 8, inferred(c, ANY, c, 1, Treequery.PARENT, ANY));
        Due.is("PARENT of texts", 6, inferred(c, ANY, c, Treequery.TEXTS, Treequery.PARENT, ANY));
        Due.is("DESCENDANT", 2 + 4 + 8 + TEXT_BIT, inferred(Treequery.DESCENDANT, ANY));
        Due.is("DESCENDANT of 3", 8, inferred(c, 2, Treequery.DESCENDANT, 1, Treequery.DESCENDANT, ANY));
        Due.is("DESCENDANT_OR_SELF", 15 + TEXT_BIT, inferred(Treequery.DESCENDANT_OR_SELF, ANY));
        Due.is("ANCESTOR", 1, inferred(c, ANY, Treequery.ANCESTOR, ANY));
        Due.is("ANCESTOR of texts", 7, inferred(Treequery.DESCENDANT, Treequery.TEXTS, Treequery.ANCESTOR, ANY));
        Due.is("ANCESTOR_OR_SELF", 7 + TEXT_BIT,
                inferred(Treequery.DESCENDANT, Treequery.TEXTS, Treequery.ANCESTOR_OR_SELF, ANY));
        Due.is("FOLLOWING", 15 + TEXT_BIT, inferred(Treequery.FOLLOWING, ANY));
        Due.is("PRECEDING", 15 + TEXT_BIT, inferred(Treequery.PRECEDING, ANY));
        Due.is("FOLLOWING_SIBLING of the root", 0, inferred(Treequery.FOLLOWING_SIBLING, ANY));
        Due.is("FOLLOWING_SIBLING", 6, inferred(c, 1, Treequery.FOLLOWING_SIBLING, ANY));
        Due.is("PRECEDING_SIBLING of texts", 8 + TEXT_BIT,
                inferred(c, 2, c, Treequery.TEXTS, Treequery.PRECEDING_SIBLING, ANY));
        Due.is("ATTRIBUTES of the root", 0, inferred(Treequery.ATTRIBUTES, ANY));
        Due.is("ATTRIBUTES", ATTRIBUTE_BIT, inferred(c, 1, Treequery.ATTRIBUTES, ANY));
        Due.is("ATTRIBUTES of 2", 0, inferred(c, 2, Treequery.ATTRIBUTES, ANY));
        Due.is("PARENT of attributes", 2 + 8, inferred(c, 1, Treequery.ATTRIBUTES, ANY, Treequery.PARENT, ANY));
        Due.is("CHILD of attributes", 0, inferred(c, 1, Treequery.ATTRIBUTES, ANY, c, ANY));
        Due.is("siblings of attributes", 8 + TEXT_BIT,
                inferred(c, 1, Treequery.ATTRIBUTES, ANY, Treequery.FOLLOWING_SIBLING, ANY));
        Due.is("DESCENDANT_OR_SELF of attributes", ATTRIBUTE_BIT,
                inferred(c, 1, Treequery.ATTRIBUTES, ANY, Treequery.DESCENDANT_OR_SELF, ANY));
    }

    private static void inferTests() {
        int d = Treequery.DESCENDANT;
        Due.is("a name of two types", 2 + 8, inferred(d, 1));
        Due.is("a name of one type", 4, inferred(d, 2));
        Due.is("a name of none that comes in", 0, inferred(d, 5));
        Due.is("texts", TEXT_BIT, inferred(d, Treequery.TEXTS));
        Due.is("a space", 2 + 4 + 8, inferred(d, Treequery.SPACE));
        Due.is("another space", 2 + 4 + 8, inferred(d, Treequery.SPACE + 3));
        Due.is("attributes by any name", ATTRIBUTE_BIT, inferred(d, 1, Treequery.ATTRIBUTES, 6));
        Due.is("attributes by texts", 0, inferred(d, 1, Treequery.ATTRIBUTES, Treequery.TEXTS));
        Due.is("attributes by space", 0, inferred(d, 1, Treequery.ATTRIBUTES, Treequery.SPACE));
        Treequery x = grammar();
        int nothing = Sample.path(x, Treequery.SELF, 7);
        int path = Sample.path(x, Treequery.CHILD, ANY);
        x.place(path, Treequery.EQUAL, 0);
        x.has(path, nothing, true);
        Due.is("conditions leave all", 6, x.infer(path));
        x.nameType(1, NONE);
        Due.is("types without a name too", 6, x.infer(path));
    }

    private static void inferFromNothing() {
        for (int axis = 0; axis < 12; axis++) {
            Due.is("from an empty set by axis " + axis, 0, inferred(Treequery.SELF, 7, axis, ANY));
        }
    }

    private static void inferUnreachable() {
        Treequery x = new Treequery();
        int children = Sample.path(x, Treequery.CHILD, ANY);
        int following = Sample.path(x, Treequery.FOLLOWING, ANY);
        Due.is("a bare type 0", 0, x.infer(children));
        Due.is("the type 0 alone", 1, x.infer(following));
        x.arc(1, 0, 0, 0);
        x.allowTexts(1, true);
        int parents = Sample.path(x, Treequery.PARENT, ANY);
        Due.is("a type that one does not come to is no parent", 0, x.infer(parents));
        Due.is("nor its texts", 1, x.infer(following));
        x.arc(0, 2, 1, 3);
        Due.is("an arc from any state", 2, x.infer(children));
        Due.is("then it is", 2, x.infer(parents));
        Due.is("with its texts", 3 + TEXT_BIT, x.infer(following));
    }

    private static void inferRepeat() {
        Treequery x = grammar();
        int child = Sample.path(x, Treequery.CHILD, ANY);
        int all = x.path();
        x.step(all, Treequery.REPEAT, ANY, child);
        Due.is("as DESCENDANT", 2 + 4 + 8 + TEXT_BIT, x.infer(all));
        int twice = x.path();
        x.step(twice, Treequery.CHILD, ANY, NONE);
        x.step(twice, Treequery.CHILD, ANY, NONE);
        int even = x.path();
        x.step(even, Treequery.REPEAT, ANY, twice);
        Due.is("by two steps at once", 8 + TEXT_BIT, x.infer(even));
        int ones = x.path();
        x.step(ones, Treequery.REPEAT, 1, child);
        Due.is("with a test", 2 + 8, x.infer(ones));
        int deep = x.path();
        x.step(deep, Treequery.CHILD, 2, NONE);
        x.step(deep, Treequery.REPEAT, ANY, all);
        Due.is("REPEAT of REPEAT, from another set", 8 + TEXT_BIT, x.infer(deep));
    }

    private static void inferWrong() {
        Treequery x = grammar();
        x.path();
        Due.throwing("no path", Due.BOUNDS, () -> x.infer(1));
        Due.throwing("path -1", Due.BOUNDS, () -> x.infer(-1));
        Due.is("the others", 1, x.infer(0));
    }
}
