/** Promises 1 and 12 to 22: each sentence of the document that names a bound of the nodes and their numbers. */
public final class NodeBoundsTest {
    public static void main(String[] args) {
        newObject();
        newSchema();
        objectsApart();
        manyCalls();
        counts();
        isThere();
        noSuchNode();
        kindsAndNames();
        values();
        parents();
        children();
        spaces();
        numbersOfAll();
        numbersBetween();
        numbersBehindAll();
        numbersOfMoved();
        numbersAnew();
        numbersOfVersions();
        Due.end();
    }

    private static void newObject() {
        Runs.run("Promise 1: a root without anything",
                "made() = 1; nodes() = 1; numbered() = 0; isThere(0) = true; isThere(1) = false; kind(0) = ELEMENT",
                "name(0) = 0; value(0) = NONE; parent(0) = NONE; child(0, 0) = NONE; space(0) = 0; number(0) = 16",
                "children(0) = ; path(); step(0, ATTRIBUTES, ANY, NONE); found(0, 0) = 0");
        Runs.run("Promise 1: no updates", "forget() = 0; apply() = 1");
        Runs.run("Promise 1: no paths",
                "paths() = 0; found(0, 0) ! bounds; foundAnew(0, 0) ! bounds; foundAt(0, 0) ! bounds",
                "ordered(0, 0) ! bounds; groups(0) ! bounds; infer(0) ! bounds; plan(0) ! bounds; view(0) ! bounds",
                "hide(0) ! bounds; step(0, SELF, ANY, NONE) ! bounds; place(0, EQUAL, 1) ! bounds; last(0) ! bounds",
                "has(0, 0, true) ! bounds; worth(0, 0, EQUAL, 1) ! bounds; path() = 0");
        Runs.run("Promise 1: no rules",
                "isValid() = false; types(0) = 0; setStrict(false) = false; setStrict(true) ! state");
        Runs.run("Promise 1: no views", "viewed(0, 0) ! bounds; changed(0) ! bounds; path(); view(0) = 0");
        Runs.run("Promise 1: no versions",
                "take(0) ! bounds; distance(0, 0) ! bounds; odds(0, 0, 0) ! bounds; keep() = 0");
        Runs.run("Promise 1: not a reader, and nothing is hidden",
                "readAsReader(false) = false; isSeen(0) = true; path(); found(0, 0) = 1; hide(0) = true");
        Runs.run("Promise 1: no words", "ranked(0, 0) = NONE; ranked(999, 0) = NONE");
        for (int name = 0; name < 8; name++) {
            Runs.run("Promise 1: no indexes",
                    "path(); step(0, DESCENDANT, 7, NONE); plan(0) = 2001; index(" + name + ") = true");
        }
    }

    private static void newSchema() {
        for (int type = 0; type < 6; type++) {
            StringBuilder calls = new StringBuilder();
            calls.append("nameType(" + type + ", NONE) = NONE; allowTexts(" + type + ", false) = false\n");
            for (int name = 0; name < 8; name++) {
                calls.append("attribute(" + type + ", " + name + ", BARRED) = BARRED\n");
            }
            for (int state = 0; state < 4; state++) {
                calls.append("setFinal(" + type + ", " + state + ", false) = " + (state == 0) + "\n");
            }
            for (int arc = 0; arc < 96; arc++) {
                calls.append("arc(" + type + ", " + arc / 24 + ", " + arc / 4 % 6 + ", " + arc % 4 + ") = true\n");
            }
            Runs.run("Promise 1: no rules, of type " + type, calls.toString());
        }
    }

    private static void objectsApart() {
        Treequery x = Sample.tree();
        Treequery y = new Treequery();
        x.path();
        x.nameType(0, 0);
        x.keep();
        String told = y.made() + " " + y.nodes() + " " + y.paths() + " " + y.types(0) + " " + y.nameType(0, 1);
        Due.is("Promise 1: a new object beside another one", "1 1 0 0 -1", told);
        Due.throwing("Promise 1: no version of another one", Due.BOUNDS, () -> y.take(0));
        Due.is("Promise 1: the other one stays", 11, x.nodes());
    }

    private static void manyCalls() {
        Runs.run("Promise 1: an object answers up to its 512th call",
                "insertText(0, 0, 7); apply() = 2; 254 times nodes() = 2; 254 times forget() = 0",
                "insertText(0, 1, 8) = 1; apply() = 3");
    }

    private static void counts() {
        Runs.run("Promise 12: made, from the root alone up to 60",
                "made() = 1; insertText(0, 0, 1); made() = 1; apply(); made() = 2; 20 times insertText(0, 0, 1)",
                "apply() = 22; 20 times insertText(0, 0, 1); apply() = 42; 18 times insertText(0, 0, 1); made() = 42",
                "apply(); made() = 60; insertText(0, 0, 1); apply() ! state; made() = 60; forget(); remove(1)",
                "apply(); made() = 60");
        Runs.run("Promise 12: what is gone was made, what is forgotten was not", Runs.SAMPLE,
                "remove(1); insertText(1, 0, 1); insertText(0, 0, 1); apply(); made() = 13; insertText(0, 0, 1)",
                "forget(); made() = 13");
        Runs.run("Promise 12: a version leaves what was made", Runs.SAMPLE,
                "keep(); insertText(0, 0, 1); apply(); take(0); made() = 12");
        Runs.run("Promise 13: nodes, from the root alone up to 60",
                "nodes() = 1; 20 times insertText(0, 0, 1); nodes() = 1; apply(); nodes() = 21",
                "20 times insertText(0, 0, 1); apply(); 19 times insertText(0, 0, 1); apply(); nodes() = 60");
        Runs.run("Promise 13: gone nodes are not there", Runs.SAMPLE,
                "nodes() = 11; remove(1); nodes() = 11; apply() = 6; nodes() = 6; remove(2); remove(3); remove(4)",
                "apply() = 1; nodes() = 1");
    }

    private static void isThere() {
        Runs.run("Promise 14: any number", Runs.RICH,
                "isThere(0) = true; isThere(10) = true; isThere(11) = false; isThere(12) = false",
                "isThere(-1) = false; isThere(59) = false; isThere(60) = false; isThere(63) = false",
                "isThere(64) = false; isThere(MAX) = false; isThere(MIN) = false");
        Runs.run("Promise 14: also below what is removed", Runs.SAMPLE,
                "remove(1); isThere(10) = true; apply(); isThere(10) = false; isThere(5) = false; isThere(1) = false",
                "isThere(2) = true");
        Runs.run("Promise 14: a node of a version that is taken", Runs.SAMPLE,
                "keep(); remove(1); apply(); take(0); isThere(10) = true");
    }

    private static void noSuchNode() {
        String[] calls = {"15: kind(#)", "16: name(#)", "17: value(#)", "18: parent(#)", "19: child(#, 0)",
            "20: space(#)", "21: number(#)"};
        for (String each : calls) {
            Runs.refused("Promise " + each.substring(0, 2) + ": there is no such node", Runs.RICH, each.substring(4),
                    "bounds", Runs.NO_NODES);
        }
    }

    private static void kindsAndNames() {
        Runs.run("Promise 15: each kind", Runs.SAMPLE,
                "kind(0) = ELEMENT; kind(7) = ELEMENT; kind(8) = TEXT; kind(10) = ATTRIBUTE");
        Runs.run("Promise 16: names 0 to 7, NONE for a text",
                "insertElement(0, 0, 7); insertAttribute(0, 0, 1); insertAttribute(0, 7, 1); insertText(0, 0, 7)",
                "apply(); name(0) = 0; name(1) = 7; name(2) = 0; name(3) = 7; name(4) = NONE");
    }

    private static void values() {
        Runs.run("Promise 17: values 0 and 999 of texts and attributes",
                "insertText(0, 0, 0); insertText(0, 0, 999); insertAttribute(0, 0, 0); insertAttribute(0, 1, 999)",
                "apply(); value(1) = 0; value(2) = 999; value(3) = 0; value(4) = 999; value(0) = 0");
        Runs.run("Promise 17: NONE if there is no text below",
                "insertElement(0, 0, 1); insertAttribute(1, 0, 5) ! bounds; apply(); insertAttribute(1, 0, 5)",
                "insertAttribute(0, 0, 6); apply() = 4; value(0) = NONE; value(1) = NONE");
        Runs.run("Promise 17: the first text below, in the order of the document", Runs.SAMPLE,
                "value(0) = 9; value(1) = 9; value(2) = 5; value(5) = NONE; value(7) = NONE; move(3, 0, 0); apply()",
                "value(0) = 5; insertText(5, 0, 77); apply(); value(1) = 77; value(5) = 77; value(0) = 5");
        Runs.run("Promise 17: a deep text ahead of a near one",
                "insertElement(0, 0, 1); insertText(0, 0, 1); apply(); insertElement(1, 0, 1); apply()",
                "insertText(3, 0, 0); apply(); value(0) = 0; value(1) = 0; value(3) = 0; remove(4); apply()",
                "value(0) = 1; value(1) = NONE");
    }

    private static void parents() {
        Runs.run("Promise 18: NONE for the root, the element of others", Runs.SAMPLE,
                "parent(0) = NONE; parent(1) = 0; parent(4) = 0; parent(10) = 1; parent(8) = 2; move(8, 5, 0)",
                "apply(); parent(8) = 5");
    }

    private static void children() {
        Runs.refused("Promise 19: place is below 0", Runs.RICH, "child(#)", "bounds", "0, -1", "0, MIN", "5, -1",
                "3, -1", "4, -1");
        Runs.refused("Promise 19: no node and no place", Runs.RICH, "child(#)", "bounds", "11, -1", "-1, -1");
        Runs.run("Promise 19: the first, the last and no child", Runs.SAMPLE,
                "child(0, 0) = 1; child(0, 2) = 3; child(0, 3) = NONE; child(0, MAX) = NONE; child(0, 60) = NONE",
                "child(0, 64) = NONE; child(5, 0) = NONE; child(3, 0) = NONE; child(4, 0) = NONE");
        Runs.run("Promise 19: attributes are no children", Runs.SAMPLE,
                "child(1, 0) = 5; child(1, 1) = 6; child(1, 2) = NONE");
        Runs.run("Promise 19: 59 children",
                "20 times insertText(0, 0, 1); apply(); 20 times insertText(0, 20, 1); apply()",
                "19 times insertText(0, 40, 1); apply() = 60; child(0, 0) = 1; child(0, 58) = 59",
                "child(0, 59) = NONE");
    }

    private static void spaces() {
        Runs.run("Promise 20: 0 at the root without one, NONE for texts and attributes", Runs.SAMPLE,
                "space(0) = 0; space(7) = 0; space(3) = NONE; space(4) = NONE; declare(0, 3); apply()",
                "space(3) = NONE; space(10) = NONE");
        Runs.run("Promise 20: its own, otherwise that of its parent", Runs.SAMPLE,
                "declare(0, 3); declare(2, 0); apply(); space(0) = 3; space(1) = 3; space(5) = 3; space(2) = 0",
                "space(7) = 0; move(7, 1, 0); apply(); space(7) = 3; declare(1, 1); declare(7, 2); apply()",
                "space(7) = 2; space(5) = 1; space(0) = 3");
    }

    private static void numbersOfAll() {
        Runs.run("Promise 21: the root has 16, an attribute none",
                "insertAttribute(0, 0, 1); insertText(0, 0, 1); apply(); number(0) = 16; number(1) = NONE",
                "number(2) = 32");
        Runs.run("Promise 21: attributes take no number of a row",
                "insertElement(0, 0, 1); insertAttribute(0, 0, 1); apply(); number(1) = 32; insertAttribute(1, 0, 1)",
                "insertAttribute(1, 1, 1); insertText(1, 0, 1); insertAttribute(0, 7, 1); apply(); number(5) = 48",
                "numbered() = 0");
        Runs.run("Promise 21: other updates leave them", Runs.SAMPLE,
                "rename(1, 5); setValue(3, 1); declare(2, 2); remove(5); apply(); number(1) = 32; number(6) = 42",
                "number(2) = 48; number(7) = 53; number(8) = 58; number(3) = 64");
    }

    /** The quotient of i times (b less a) by n + 1 is a whole number, as numbers are. */
    private static void numbersBetween() {
        String one = "insertText(0, 0, 1); apply(); number(1) = 32\n";
        Runs.run("Promise 21: one between 16 and 32", one,
                "insertText(0, 0, 2); apply(); number(2) = 24; number(1) = 32; number(0) = 16");
        Runs.run("Promise 21: two between", one,
                "2 times insertText(0, 0, 2); apply(); number(2) = 21; number(3) = 26");
        Runs.run("Promise 21: six between", one,
                "6 times insertText(0, 0, 2); apply(); number(2) = 18; number(3) = 20; number(4) = 22",
                "number(5) = 25; number(6) = 27; number(7) = 29");
        Runs.run("Promise 21: as many as fit", one,
                "15 times insertText(0, 0, 2); apply(); number(2) = 17; number(9) = 24; number(16) = 31",
                "numbered() = 0");
        Runs.run("Promise 21: a row goes through several elements", Runs.SAMPLE,
                "insertText(1, 2, 1); insertText(0, 1, 1); insertElement(7, 0, 1); apply(); number(11) = 44",
                "number(12) = 46; number(13) = 55");
        Runs.run("Promise 21: between the next ones that are there then", Runs.SAMPLE,
                "remove(6); remove(2); insertText(1, 2, 1); apply(); number(11) = 50");
        Runs.run("Promise 21: two rows", Runs.SAMPLE,
                "insertText(0, 0, 1); insertText(0, 2, 1); apply(); number(11) = 24; number(12) = 61");
    }

    private static void numbersBehindAll() {
        Runs.run("Promise 21: none comes behind them",
                "20 times insertText(0, 0, 1); apply(); number(1) = 32; number(20) = 336; insertText(0, 20, 1)",
                "apply(); number(21) = 352; numbered() = 0");
        Runs.run("Promise 21: none comes behind what is deep",
                "insertElement(0, 0, 1); apply(); insertElement(1, 0, 1); insertText(0, 1, 1); apply()",
                "number(2) = 48; number(3) = 64; insertText(2, 0, 1); apply(); number(4) = 56");
        Runs.run("Promise 21: behind what is left", Runs.SAMPLE,
                "remove(3); insertText(0, 3, 1); apply(); number(11) = 74");
    }

    private static void numbersOfMoved() {
        Runs.run("Promise 21: what was moved, with all below it", Runs.SAMPLE,
                "move(1, 0, 3); apply(); number(1) = 80; number(5) = 96; number(6) = 112; number(10) = NONE",
                "number(2) = 48; number(3) = 64");
        Runs.run("Promise 21: moved to where it is", Runs.SAMPLE,
                "move(5, 1, 0); apply(); number(5) = 37; move(3, 0, 3); apply(); number(3) = 74");
        Runs.run("Promise 21: what moves out of what is moved", Runs.SAMPLE,
                "move(2, 0, 0); move(8, 0, 3); apply(); number(2) = 21; number(7) = 26; number(1) = 32",
                "number(3) = 64; number(8) = 80");
    }

    private static void numbersAnew() {
        String one = "insertText(0, 0, 1); apply(); number(1) = 32\n";
        Runs.run("Promise 22: in some row b less a is not above n", one,
                "16 times insertText(0, 0, 2); apply(); numbered() = 1; number(0) = 16; number(2) = 32",
                "number(17) = 272; number(1) = 288");
        Runs.run("Promise 22: b less a is above n by one", one,
                "15 times insertText(0, 0, 2); apply(); numbered() = 0");
        Runs.run("Promise 22: one between two numbers, and between two that follow one another", one,
                "insertText(0, 0, 1); apply(); number(2) = 24; insertText(0, 0, 1); apply(); number(3) = 20",
                "insertText(0, 0, 1); apply(); number(4) = 18; insertText(0, 0, 1); apply(); number(5) = 17",
                "numbered() = 0; insertText(0, 0, 1); apply(); numbered() = 1; number(6) = 32; number(5) = 48",
                "number(1) = 112");
        Runs.run("Promise 22: one row of two has no room", Runs.SAMPLE,
                "insertText(0, 0, 1); 5 times insertText(1, 1, 1); apply(); numbered() = 1; number(0) = 16",
                "number(11) = 32; number(1) = 48; number(5) = 64; number(12) = 80; number(3) = 224");
        Runs.run("Promise 22: two rows have no room, once for all", one,
                "insertText(0, 1, 2); apply(); number(2) = 48; 10 times insertText(0, 0, 3)",
                "10 times insertText(0, 1, 3); apply(); numbered() = 0; number(12) = 30; number(13) = 33",
                "5 times insertText(0, 10, 3); 5 times insertText(0, 20, 3); apply() = 33; numbered() = 1",
                "number(2) = 528");
        Runs.run("Promise 22: a row that none comes behind has room", one,
                "20 times insertText(0, 1, 2); apply(); 20 times insertText(0, 21, 2); apply(); numbered() = 0",
                "number(41) = 672");
        Runs.run("Promise 22: a refused list does not count", one,
                "16 times insertText(0, 0, 2); insertAttribute(0, 1, 1); insertAttribute(0, 1, 1); apply() ! state",
                "numbered() = 0; number(1) = 32");
        Runs.run("Promise 22: again and again", one,
                "16 times insertText(0, 0, 2); apply(); 16 times insertText(0, 0, 2); apply(); numbered() = 2",
                "number(18) = 32; number(1) = 544");
    }

    private static void numbersOfVersions() {
        Runs.run("Promise 22: taking a version is no update", Runs.SAMPLE,
                "keep(); take(0); numbered() = 0; number(5) = 48; number(3) = 128");
    }
}
