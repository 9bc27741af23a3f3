/** Promises 36 to 44: each sentence of the document that names a bound of the schema. */
public final class SchemaBoundsTest {
    private static final String[] NO_TYPES = {"-1", "6", "MAX", "MIN"};
    private static final String[] NO_STATES = {"-1", "4", "MAX", "MIN"};

    /** A strict schema and a tree that is valid by it: a root with one element. */
    private static final String STRICT = """
            nameType(0, 0); nameType(1, 1); arc(0, 0, 1, 1); setFinal(0, 1, true)
            path() = 0; insertElement(0, 0, 1); apply() = 2; keep() = 0; setStrict(true) = false
            """;

    public static void main(String[] args) {
        nameType();
        arc();
        setFinal();
        allowTexts();
        attribute();
        strictSchema();
        setStrict();
        isValid();
        names();
        texts();
        attributes();
        childrenOfNone();
        childrenInRow();
        childrenOfSeveralTypes();
        types();
        inferredPaths();
        inferredMembers();
        inferredAxes();
        inferredAnew();
        inferredOfAttributes();
        inferredRepeats();
        inferredTests();
        inferredFromNothing();
        Due.end();
    }

    private static void nameType() {
        Runs.refused("Promise 36: there is no such type", Runs.RICH, "nameType(#, 0)", "bounds", NO_TYPES);
        Runs.refused("Promise 36: name is out of range", Runs.RICH, "nameType(1, #)", "argument", "-2", "8", "MAX",
                "MIN");
        Runs.run("Promise 36: neither type nor name", Runs.RICH, "nameType(6, 8) ! bounds; nameType(-1, -2) ! bounds");
        Runs.run("Promise 36: types 0 to 5, names 0 to 7, or NONE, and the name before",
                "nameType(0, 7) = NONE; nameType(0, 0) = 7; nameType(0, NONE) = 0; nameType(0, NONE) = NONE",
                "nameType(5, 0) = NONE; nameType(5, 7) = 0; nameType(5, 7) = 7; nameType(0, 3) = NONE");
    }

    private static void arc() {
        Runs.refused("Promise 37: there is no such type", Runs.RICH, "arc(#, 0, 1, 1)", "bounds", NO_TYPES);
        Runs.refused("Promise 37: there is no such state, from", Runs.RICH, "arc(0, #, 1, 1)", "bounds", NO_STATES);
        Runs.refused("Promise 37: there is no such type, by", Runs.RICH, "arc(0, 0, #, 1)", "bounds", NO_TYPES);
        Runs.refused("Promise 37: there is no such state, to", Runs.RICH, "arc(0, 0, 1, #)", "bounds", NO_STATES);
        Runs.run("Promise 37: the first and the last of all",
                "arc(0, 0, 0, 0) = true; arc(5, 3, 5, 3) = true; arc(0, 0, 0, 3) = true; arc(5, 0, 5, 3) = true",
                "arc(0, 3, 0, 0) = true; arc(0, 0, 5, 0) = true; arc(5, 3, 5, 3) = false; arc(0, 0, 0, 0) = false",
                "arc(0, 0, 0, 0) = true; arc(5, 3, 5, 3) = true");
        Runs.run("Promise 37: made, or taken away, one by one",
                "nameType(0, 0); nameType(1, 1); insertElement(0, 0, 1); apply(); isValid() = false",
                "arc(0, 0, 1, 0) = true; isValid() = true; arc(0, 0, 1, 1) = true; isValid() = true",
                "arc(0, 0, 1, 0) = false; isValid() = false");
    }

    private static void setFinal() {
        Runs.refused("Promise 38: there is no such type", Runs.RICH, "setFinal(#, 0, true)", "bounds", NO_TYPES);
        Runs.refused("Promise 38: there is no such state", Runs.RICH, "setFinal(0, #, true)", "bounds", NO_STATES);
        Runs.run("Promise 38: at first just 0, and whether it was",
                "setFinal(0, 0, true) = true; setFinal(0, 3, false) = false; setFinal(0, 3, true) = false",
                "setFinal(0, 3, true) = true; setFinal(5, 0, false) = true; setFinal(5, 0, false) = false",
                "setFinal(5, 3, true) = false; setFinal(0, 3, false) = true; setFinal(0, 3, true) = false",
                "setFinal(5, 3, true) = true; setFinal(5, 2, true) = false; setFinal(4, 0, true) = true");
        Runs.run("Promise 38: several states may be final, or none",
                "nameType(0, 0); setFinal(0, 3, true); isValid() = true; setFinal(0, 0, false); isValid() = false",
                "setFinal(0, 3, false); isValid() = false; setFinal(0, 0, true); isValid() = true");
    }

    private static void allowTexts() {
        Runs.refused("Promise 39: there is no such type", Runs.RICH, "allowTexts(#, true)", "bounds", NO_TYPES);
        Runs.run("Promise 39: not at first, and whether it did",
                "allowTexts(0, false) = false; allowTexts(0, true) = false; allowTexts(0, true) = true",
                "allowTexts(5, true) = false; allowTexts(0, false) = true; allowTexts(0, false) = false",
                "allowTexts(5, true) = true; allowTexts(4, true) = false");
    }

    private static void attribute() {
        Runs.refused("Promise 40: there is no such type", Runs.RICH, "attribute(#, 0, ALLOWED)", "bounds", NO_TYPES);
        Runs.refused("Promise 40: name is out of range", Runs.RICH, "attribute(0, #, ALLOWED)", "argument", "-1", "8",
                "MAX", "MIN");
        Runs.refused("Promise 40: what is out of range", Runs.RICH, "attribute(0, 0, #)", "argument", "-1", "3", "MAX",
                "MIN");
        Runs.run("Promise 40: neither type nor name nor what", Runs.RICH,
                "attribute(6, 8, 3) ! bounds; attribute(6, 0, 3) ! bounds; attribute(-1, -1, 0) ! bounds");
        Runs.run("Promise 40: barred at first, and what it said",
                "attribute(0, 0, NEEDED) = BARRED; attribute(0, 7, ALLOWED) = BARRED",
                "attribute(5, 0, ALLOWED) = BARRED; attribute(5, 7, NEEDED) = BARRED",
                "attribute(0, 0, BARRED) = NEEDED; attribute(0, 7, NEEDED) = ALLOWED",
                "attribute(5, 0, ALLOWED) = ALLOWED; attribute(5, 7, BARRED) = NEEDED",
                "attribute(0, 0, ALLOWED) = BARRED; attribute(0, 7, BARRED) = NEEDED",
                "attribute(5, 6, BARRED) = BARRED");
    }

    private static void strictSchema() {
        String[] calls = {"36: nameType(1, 1)", "36: nameType(5, NONE)", "37: arc(0, 0, 1, 1)", "37: arc(5, 3, 5, 3)",
            "38: setFinal(0, 1, true)", "38: setFinal(0, 2, true)", "39: allowTexts(0, false)",
            "39: allowTexts(5, true)", "40: attribute(0, 0, BARRED)", "40: attribute(5, 7, NEEDED)"};
        for (String each : calls) {
            String call = each.substring(4);
            Runs.run("Promise " + each.substring(0, 2) + ": the schema is strict", STRICT, call + " ! state",
                    "setStrict(false) = true", call);
        }
        Runs.run("Promise 36: the arguments come first", STRICT,
                "nameType(6, 0) ! bounds; nameType(0, 8) ! argument; nameType(0, -2) ! argument");
        Runs.run("Promise 37: the arguments come first", STRICT,
                "arc(6, 0, 0, 0) ! bounds; arc(0, 4, 0, 0) ! bounds; arc(0, 0, 6, 0) ! bounds",
                "arc(0, 0, 0, 4) ! bounds");
        Runs.run("Promise 38: the arguments come first", STRICT,
                "setFinal(6, 0, true) ! bounds; setFinal(0, 4, true) ! bounds");
        Runs.run("Promise 39: the arguments come first", STRICT,
                "allowTexts(6, true) ! bounds; allowTexts(-1, true) ! bounds");
        Runs.run("Promise 40: the arguments come first", STRICT,
                "attribute(6, 0, 0) ! bounds; attribute(0, 8, 0) ! argument; attribute(0, 0, 3) ! argument");
    }

    private static void setStrict() {
        Runs.run("Promise 41: on, and the tree is not valid", Runs.RICH,
                "setStrict(true) ! state; setStrict(false) = false; setStrict(true) ! state");
        Runs.run("Promise 41: not, as at first",
                "setStrict(false) = false; nameType(0, 0); setStrict(false) = false; setStrict(true) = false",
                "setStrict(true) = true; setStrict(false) = true; setStrict(false) = false");
        Runs.run("Promise 41: the tree as it is, not as the list would make it",
                "nameType(0, 0); insertElement(0, 0, 7); setStrict(true) = false; apply() ! state; forget()",
                "apply() = 1");
        Runs.run("Promise 41: off with a tree that is not valid",
                "setStrict(false) = false; isValid() = false; setStrict(false) = false");
    }

    private static void isValid() {
        Runs.run("Promise 42: the root is of the type 0",
                "isValid() = false; nameType(0, 0); isValid() = true; nameType(0, 1); isValid() = false");
        Runs.run("Promise 42: of another type",
                "nameType(1, 0); isValid() = false; types(0) = 2; nameType(5, 0); types(0) = 34; isValid() = false");
        Runs.run("Promise 42: by the tree as it is",
                "nameType(0, 0); rename(0, 1); isValid() = true; apply(); isValid() = false; nameType(0, 1)",
                "isValid() = true");
        Runs.run("Promise 42: all that is below has to be of types",
                "nameType(0, 0); nameType(1, 1); arc(0, 0, 1, 0); arc(1, 0, 1, 0); insertElement(0, 0, 1); apply()",
                "insertElement(1, 0, 1); apply(); insertElement(2, 0, 1); apply(); isValid() = true",
                "insertElement(3, 0, 2); apply(); isValid() = false; types(3) = 0; types(2) = 0; types(1) = 0",
                "rename(4, 1); apply(); isValid() = true; types(1) = 2");
    }

    private static void names() {
        Runs.run("Promise 43: a type without a name is for no element",
                "insertElement(0, 0, 7); apply(); types(0) = 0; types(1) = 0; nameType(0, 0); nameType(5, 7)",
                "types(1) = 32; nameType(5, NONE); types(1) = 0; nameType(5, 6); types(1) = 0");
        Runs.run("Promise 43: of all six types",
                "nameType(0, 0); nameType(1, 0); nameType(2, 0); nameType(3, 0); nameType(4, 0); nameType(5, 0)",
                "types(0) = 63");
    }

    private static void texts() {
        Runs.run("Promise 43: texts among its children only if allowed",
                "nameType(0, 0); insertText(0, 0, 1); apply(); types(0) = 0; allowTexts(0, true); types(0) = 1",
                "remove(1); apply(); types(0) = 1; allowTexts(0, false); types(0) = 1");
        Runs.run("Promise 43: texts farther below are not among its children",
                "nameType(0, 0); nameType(1, 1); arc(0, 0, 1, 0); allowTexts(1, true); insertElement(0, 0, 1)",
                "apply(); insertText(1, 0, 1); apply(); types(0) = 1; types(1) = 2");
        Runs.run("Promise 43: texts between elements",
                "nameType(0, 0); nameType(1, 1); arc(0, 0, 1, 1); arc(0, 1, 1, 0); allowTexts(0, true)",
                "insertText(0, 0, 1); insertElement(0, 0, 1); insertText(0, 0, 1); insertElement(0, 0, 1)",
                "insertText(0, 0, 1); apply(); types(0) = 1");
    }

    private static void attributes() {
        for (int name = 0; name < 8; name += 7) {
            Runs.run("Promise 43: barred, allowed, needed, there and not there",
                    "nameType(0, 0); types(0) = 1; attribute(0, " + name + ", NEEDED); types(0) = 0",
                    "attribute(0, " + name + ", ALLOWED); types(0) = 1",
                    "insertAttribute(0, " + name + ", 0); apply(); types(0) = 1",
                    "attribute(0, " + name + ", NEEDED); types(0) = 1; attribute(0, " + name + ", BARRED); types(0) = 0");
        }
        Runs.run("Promise 43: all that it needs",
                "nameType(0, 0); attribute(0, 0, NEEDED); attribute(0, 7, NEEDED); insertAttribute(0, 0, 1); apply()",
                "types(0) = 0; insertAttribute(0, 7, 1); apply(); types(0) = 1; insertAttribute(0, 3, 1); apply()",
                "types(0) = 0; rename(3, 4); attribute(0, 4, ALLOWED); apply(); types(0) = 1");
    }

    private static void childrenOfNone() {
        Runs.run("Promise 43: without children, if the state 0 is final",
                "nameType(0, 0); types(0) = 1; setFinal(0, 0, false); types(0) = 0; setFinal(0, 1, true)",
                "types(0) = 0; setFinal(0, 0, true); types(0) = 1");
        Runs.run("Promise 43: texts are no step from state to state",
                "nameType(0, 0); allowTexts(0, true); arc(0, 0, 0, 1); arc(0, 0, 1, 1); setFinal(0, 0, false)",
                "setFinal(0, 1, true); insertText(0, 0, 1); apply(); types(0) = 0; setFinal(0, 0, true)",
                "types(0) = 1");
    }

    private static void childrenInRow() {
        String row = "nameType(0, 0); nameType(5, 1); arc(0, 0, 5, 1); arc(0, 1, 5, 2); arc(0, 2, 5, 3)\n"
                + "setFinal(0, 0, false); setFinal(0, 3, true)\n";
        Runs.run("Promise 43: from the state 0 to a final one, one after the other", row,
                "types(0) = 0; insertElement(0, 0, 1); apply(); types(0) = 0; insertElement(0, 0, 1); apply()",
                "types(0) = 0; insertElement(0, 0, 1); apply(); types(0) = 1; insertElement(0, 0, 1); apply()",
                "types(0) = 0; arc(0, 3, 5, 3); types(0) = 1; 20 times insertElement(0, 0, 1); apply(); types(0) = 1");
        Runs.run("Promise 43: an arc of another type is none", row,
                "arc(1, 0, 5, 3); insertElement(0, 0, 1); apply(); types(0) = 0; arc(0, 0, 5, 3); types(0) = 1");
        Runs.run("Promise 43: they begin at the state 0 alone",
                "nameType(0, 0); nameType(1, 1); arc(0, 1, 1, 2); setFinal(0, 2, true); setFinal(0, 1, true)",
                "insertElement(0, 0, 1); apply(); types(0) = 0; arc(0, 0, 1, 2); types(0) = 1");
        Runs.run("Promise 43: 59 children",
                "nameType(0, 0); nameType(1, 1); arc(0, 0, 1, 1); arc(0, 1, 1, 0); 20 times insertElement(0, 0, 1)",
                "apply(); 20 times insertElement(0, 0, 1); apply(); types(0) = 1; 19 times insertElement(0, 0, 1)",
                "apply() = 60; types(0) = 0; setFinal(0, 1, true); types(0) = 1");
    }

    private static void childrenOfSeveralTypes() {
        Runs.run("Promise 43: children can be given types of theirs",
                "nameType(0, 0); nameType(1, 1); nameType(2, 1); insertElement(0, 0, 1); insertElement(0, 0, 1)",
                "apply(); types(1) = 6; arc(0, 0, 1, 1); arc(0, 1, 2, 2); setFinal(0, 2, true); types(0) = 1",
                "arc(0, 1, 2, 2); arc(0, 1, 1, 3); types(0) = 0; setFinal(0, 3, true); types(0) = 1",
                "attribute(1, 0, NEEDED); types(1) = 4; types(0) = 0");
        Runs.run("Promise 43: two arcs by one type from one state",
                "nameType(0, 0); nameType(1, 1); nameType(2, 2); arc(0, 0, 1, 1); arc(0, 0, 1, 2); arc(0, 2, 2, 3)",
                "setFinal(0, 3, true); insertElement(0, 0, 1); insertElement(0, 0, 2); apply(); types(0) = 1",
                "arc(0, 0, 1, 2); types(0) = 0");
    }

    private static void types() {
        Runs.refused("Promise 43: there is no such node", Runs.RICH, "types(#)", "bounds", Runs.NO_NODES);
        Runs.run("Promise 43: 0 for texts and attributes", Runs.RICH,
                "types(3) = 0; types(4) = 0; types(10) = 0; types(7) = 2; types(2) = 0");
    }

    private static void inferredPaths() {
        Runs.refused("Promise 44: there is no such path", Runs.RICH, "infer(#)", "bounds", "-1", "5", "20", "MAX",
                "MIN");
        Runs.run("Promise 44: a path without steps",
                "path(); infer(0) = 1; nameType(0, 3); infer(0) = 1; rename(0, 7); apply(); infer(0) = 1");
        Runs.run("Promise 44: the last of 20 paths, of 5 steps",
                "20 times path(); arc(0, 0, 1, 1); arc(1, 0, 2, 1); arc(2, 0, 3, 1); arc(3, 0, 4, 1)",
                "arc(4, 0, 5, 1); 5 times step(19, CHILD, ANY, NONE) = 5; infer(19) = 32; infer(18) = 1");
        Runs.run("Promise 44: from the schema alone", Runs.RICH,
                "infer(0) = 1; infer(1) = 2; infer(2) = 64; infer(3) = 66; infer(4) = 66; forget(); remove(1)",
                "remove(2); apply(); infer(3) = 66");
    }

    private static String inferred(int path, String steps, int due) {
        StringBuilder calls = new StringBuilder("path() = " + path + "\n");
        for (String step : steps.split(" ")) {
            String axisAndTest = step.contains(",") ? step.replace(",", ", ") : step + ", ANY";
            calls.append("step(" + path + ", " + axisAndTest + ", NONE)\n");
        }
        return calls + "infer(" + path + ") = " + due + "\n";
    }

    private static void inferredMembers() {
        Runs.run("Promise 44: all are those that one comes to from the type 0",
                "arc(1, 0, 0, 0); arc(1, 0, 2, 0); allowTexts(1, true); attribute(1, 0, NEEDED)",
                inferred(0, "FOLLOWING", 1), inferred(1, "PARENT", 0), inferred(2, "CHILD", 0),
                inferred(3, "ATTRIBUTES", 0), inferred(4, "DESCENDANT_OR_SELF", 1),
                "arc(0, 3, 1, 3); infer(0) = 71; infer(1) = 2; infer(2) = 2; infer(3) = 0; infer(4) = 71");
        Runs.run("Promise 44: an arc from any state to any state", inferred(0, "CHILD", 0),
                "arc(0, 3, 5, 2); infer(0) = 32; arc(0, 3, 5, 2); infer(0) = 0");
        Runs.run("Promise 44: texts if it allows these", inferred(0, "CHILD", 0),
                "allowTexts(0, true); infer(0) = 64; allowTexts(1, true); allowTexts(0, false); infer(0) = 0");
        for (int name = 0; name < 8; name += 7) {
            Runs.run("Promise 44: attributes if one of them is not barred", inferred(0, "ATTRIBUTES", 0),
                    "attribute(0, " + name + ", ALLOWED); infer(0) = 128",
                    "attribute(0, " + name + ", NEEDED); infer(0) = 128",
                    "attribute(0, " + name + ", BARRED); infer(0) = 0");
        }
        Runs.run("Promise 44: all types, texts and attributes",
                "arc(0, 0, 1, 0); arc(1, 0, 2, 0); arc(2, 0, 3, 0); arc(3, 0, 4, 0); arc(4, 0, 5, 0)",
                "arc(5, 0, 0, 0); allowTexts(5, true); attribute(5, 7, ALLOWED)", inferred(0, "DESCENDANT", 127),
                inferred(1, "DESCENDANT_OR_SELF ATTRIBUTES", 128), inferred(2, "ANCESTOR", 63),
                inferred(3, "DESCENDANT,9 ANCESTOR", 63), inferred(4, "PARENT", 32));
    }

    private static void inferredAnew() {
        Runs.run("Promise 44: by the schema as it is",
                "arc(0, 0, 1, 0); arc(0, 0, 2, 0); arc(1, 0, 2, 0); nameType(2, 2)",
                inferred(0, "DESCENDANT,2 PARENT", 3),
                "arc(0, 0, 2, 0) = false; infer(0) = 2; nameType(2, NONE); infer(0) = 0; nameType(1, 2)",
                "infer(0) = 1; arc(0, 0, 1, 0) = false; infer(0) = 0");
    }

    /** 0 can have 1; 1 can have 2, texts and attributes; 2 can have 2; 3 is not come to. */
    private static void inferredAxes() {
        String schema = 
                "arc(0, 0, 1, 0); arc(1, 0, 2, 0); arc(2, 0, 2, 0); allowTexts(1, true); attribute(1, 0, ALLOWED)\n"
                + "arc(3, 0, 1, 0); arc(3, 0, 3, 0); allowTexts(3, true)\n";
        Runs.run("Promise 44: the axes down", schema, inferred(0, "SELF", 1), inferred(1, "CHILD", 2),
                inferred(2, "CHILD CHILD", 68), inferred(3, "CHILD CHILD CHILD", 4), inferred(4, "DESCENDANT", 70),
                inferred(5, "DESCENDANT_OR_SELF", 71), inferred(6, "CHILD DESCENDANT_OR_SELF", 70),
                inferred(7, "CHILD DESCENDANT", 68), inferred(8, "CHILD ATTRIBUTES", 128),
                inferred(9, "ATTRIBUTES", 0));
        Runs.run("Promise 44: the axes up", schema, inferred(0, "PARENT", 0), inferred(1, "CHILD PARENT", 1),
                inferred(2, "CHILD CHILD PARENT", 6), inferred(3, "CHILD CHILD,9 PARENT", 2),
                inferred(4, "CHILD CHILD ANCESTOR", 7), inferred(5, "CHILD CHILD,9 ANCESTOR_OR_SELF", 67),
                inferred(6, "ANCESTOR", 0), inferred(7, "ANCESTOR_OR_SELF", 1));
        Runs.run("Promise 44: the axes aside", schema, inferred(0, "FOLLOWING", 71), inferred(1, "PRECEDING", 71),
                inferred(2, "FOLLOWING_SIBLING", 0), inferred(3, "PRECEDING_SIBLING", 0),
                inferred(4, "CHILD FOLLOWING_SIBLING", 2), inferred(5, "CHILD CHILD PRECEDING_SIBLING", 68),
                inferred(6, "CHILD CHILD,9 FOLLOWING_SIBLING", 68), inferred(7, "CHILD CHILD,9 FOLLOWING", 71));
    }

    private static void inferredOfAttributes() {
        String schema = "arc(0, 0, 1, 0); arc(1, 0, 2, 0); attribute(1, 0, ALLOWED); attribute(2, 0, NEEDED)\n"
                + "allowTexts(2, true)\n";
        String way = "CHILD ATTRIBUTES ";
        Runs.run("Promise 44: from attributes", schema, inferred(0, way + "SELF", 128), inferred(1, way + "CHILD", 0),
                inferred(2, way + "PARENT", 6), inferred(3, way + "DESCENDANT", 0),
                inferred(4, way + "DESCENDANT_OR_SELF", 128), inferred(5, way + "ANCESTOR", 7),
                inferred(6, way + "ANCESTOR_OR_SELF", 135), inferred(7, way + "FOLLOWING", 71),
                inferred(8, way + "FOLLOWING_SIBLING", 68), inferred(9, way + "ATTRIBUTES", 0),
                inferred(10, way + "PRECEDING_SIBLING", 68), inferred(11, way + "PRECEDING", 71));
    }

    private static void inferredRepeats() {
        Runs.run("Promise 44: REPEAT, and so on",
                "arc(0, 0, 1, 0); arc(1, 0, 2, 0); arc(2, 0, 3, 0); arc(3, 0, 4, 0); arc(4, 0, 5, 0)",
                inferred(0, "CHILD", 2), "path(); step(1, REPEAT, ANY, 0); infer(1) = 62",
                inferred(2, "CHILD CHILD", 4),
                "path(); step(3, REPEAT, ANY, 2); infer(3) = 20; path(); step(4, CHILD, ANY, NONE)",
                "step(4, REPEAT, ANY, 2); infer(4) = 40; path(); step(5, REPEAT, TEXTS, 0); infer(5) = 0");
        Runs.run("Promise 44: REPEAT of a path without steps, and of one that finds nothing",
                "arc(0, 0, 1, 0); path(); path(); step(1, REPEAT, ANY, 0); infer(1) = 1", inferred(2, "PARENT", 0),
                "path(); step(3, REPEAT, ANY, 2); infer(3) = 0");
        Runs.run("Promise 44: REPEAT that comes back", "arc(0, 0, 1, 0); arc(1, 0, 0, 0)", inferred(0, "CHILD", 2),
                "path(); step(1, REPEAT, ANY, 0); infer(1) = 3", inferred(2, "FOLLOWING", 3),
                "path(); step(3, REPEAT, ANY, 2); infer(3) = 3");
    }

    private static void inferredTests() {
        String schema = 
                "nameType(0, 0); nameType(1, 7); nameType(2, 7); nameType(3, 7); arc(0, 0, 1, 0); arc(0, 0, 2, 0)\n"
                + "arc(0, 0, 4, 0); allowTexts(0, true); attribute(0, 0, ALLOWED)\n";
        Runs.run("Promise 44: a name leaves the types of that name, and attributes", schema, inferred(0, "CHILD,7", 6),
                inferred(1, "CHILD,0", 0), inferred(2, "SELF,0", 1), inferred(3, "SELF,7", 0),
                inferred(4, "ATTRIBUTES,0", 128), inferred(5, "ATTRIBUTES,7", 128), inferred(6, "FOLLOWING,7", 6));
        Runs.run("Promise 44: ANY all, TEXTS texts, SPACE the types", schema, inferred(0, "CHILD,8", 86),
                inferred(1, "CHILD,9", 64), inferred(2, "CHILD,10", 22), inferred(3, "CHILD,13", 22),
                inferred(4, "ATTRIBUTES,8", 128), inferred(5, "ATTRIBUTES,9", 0), inferred(6, "ATTRIBUTES,10", 0),
                inferred(7, "ATTRIBUTES,13", 0));
        Runs.run("Promise 44: conditions leave all", schema, inferred(0, "SELF,7", 0), inferred(1, "CHILD", 86),
                "place(1, LESS, 0); infer(1) = 86; last(1); infer(1) = 86", inferred(2, "CHILD", 86),
                "has(2, 0, true); infer(2) = 86; worth(2, 0, EQUAL, 1); infer(2) = 86");
    }

    private static void inferredFromNothing() {
        StringBuilder calls = new StringBuilder("arc(0, 0, 1, 0); allowTexts(0, true); attribute(0, 0, ALLOWED)\n");
        for (int axis = 0; axis < 12; axis++) {
            calls.append(inferred(axis, "PARENT " + axis, 0));
        }
        calls.append("path(); step(12, PARENT, ANY, NONE); step(12, REPEAT, ANY, 7); infer(12) = 0\n");
        Runs.run("Promise 44: from an empty set nothing comes", calls.toString());
    }
}
