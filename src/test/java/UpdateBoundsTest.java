/** Promises 2 to 11: each sentence of the document that names a bound of the updates. */
public final class UpdateBoundsTest {
    public static void main(String[] args) {
        parents();
        places();
        placesOfTheTreeAsItIs();
        names();
        values();
        spaces();
        nodes();
        wrongKinds();
        twentyUpdates();
        firstLineDecides();
        forget();
        placesThatAreDone();
        numbersOfInserted();
        oneKindTwice();
        movedAndRemoved();
        twins();
        belowItself();
        sixtyNodes();
        strictly();
        belowRemoved();
        applied();
        rootStays();
        Due.end();
    }

    private static void parents() {
        Runs.refused("Promise 2: parent, there is no such node", Runs.RICH, "insertElement(#, 0, 1)", "bounds",
                Runs.NO_NODES);
        Runs.refused("Promise 3: parent, there is no such node", Runs.RICH, "insertText(#, 0, 1)", "bounds",
                Runs.NO_NODES);
        Runs.refused("Promise 4: parent, there is no such node", Runs.RICH, "insertAttribute(#, 0, 1)", "bounds",
                Runs.NO_NODES);
        Runs.refused("Promise 8: parent, there is no such node", Runs.RICH, "move(8, #, 0)", "bounds", Runs.NO_NODES);
        Runs.refused("Promise 2: parent is no element", Runs.RICH, "insertElement(#, 0, 1)", "state", "3", "4", "10");
        Runs.refused("Promise 3: parent is no element", Runs.RICH, "insertText(#, 0, 1)", "state", "3", "4", "10");
        Runs.refused("Promise 4: parent is no element", Runs.RICH, "insertAttribute(#, 0, 1)", "state", "3", "4", "10");
        Runs.refused("Promise 8: parent is no element", Runs.RICH, "move(8, #, 0)", "state", "3", "4", "10");
        Runs.run("Promise 2: a node of the list is no node yet",
                "insertElement(0, 0, 1) = 1; insertElement(1, 0, 1) ! bounds; apply() = 2",
                "insertElement(1, 0, 1) = 1");
    }

    private static void places() {
        String[] calls = {"Promise 2: # insertElement(#, 1)", "Promise 3: # insertText(#, 1)",
            "Promise 8: # move(8, #)"};
        for (String each : calls) {
            String title = each.substring(0, each.indexOf('#'));
            String call = each.substring(each.indexOf('#') + 1).trim();
            Runs.refused(title + "no such place of three children", Runs.RICH, call, "bounds", "0, -1", "0, 4",
                    "0, MAX", "0, MIN");
            Runs.refused(title + "no such place of two children", Runs.RICH, call, "bounds", "1, -1", "1, 3");
            Runs.refused(title + "no such place of none", Runs.RICH, call, "bounds", "5, -1", "5, 1", "7, 1");
            Runs.refused(title + "a text or attribute has no children, nor their places", Runs.RICH, call, "bounds",
                    "3, 1", "4, 1", "3, -1");
            Runs.run(title + "place 0 up to how many children it has", Runs.RICH, call.replace("#", "0, 0") + " = 4",
                    call.replace("#", "0, 3") + " = 5", call.replace("#", "1, 2") + " = 6",
                    call.replace("#", "5, 0") + " = 7");
        }
        Runs.run("Promise 2: the places 0 and of all children", Runs.SAMPLE,
                "insertElement(0, 0, 1); insertElement(0, 3, 1); insertElement(5, 0, 1); apply() = 14",
                "children(0) = 11 1 2 3 12; children(5) = 13");
        Runs.run("Promise 3: the places 0 and of all children", Runs.SAMPLE,
                "insertText(0, 0, 1); insertText(0, 3, 1); insertText(5, 0, 1); apply() = 14",
                "children(0) = 11 1 2 3 12; children(5) = 13");
        Runs.run("Promise 8: the places 0 and of all children", Runs.SAMPLE,
                "move(8, 0, 0); move(6, 0, 3); move(7, 5, 0); apply() = 11; children(0) = 8 1 2 3 6; children(5) = 7");
        Runs.run("Promise 8: a node that moves within its parent still counts among its children", Runs.SAMPLE,
                "move(1, 0, 4) ! bounds; move(1, 0, 3) = 1; apply() = 11; children(0) = 2 3 1");
    }

    private static void placesOfTheTreeAsItIs() {
        Runs.run("Promise 2: what the list inserts is no child yet",
                "insertElement(0, 0, 1) = 1; insertElement(0, 1, 1) ! bounds; insertText(0, 1, 1) ! bounds",
                "apply() = 2; insertElement(0, 1, 1) = 1; insertElement(0, 2, 1) ! bounds");
        Runs.run("Promise 2: what the list removes is a child still", Runs.SAMPLE,
                "remove(3) = 1; remove(2) = 2; insertElement(0, 3, 1) = 3; insertElement(0, 4, 1) ! bounds",
                "apply() = 8; children(0) = 1 11");
        Runs.run("Promise 3: what the list moves away is a child still", Runs.SAMPLE,
                "move(3, 2, 0) = 1; insertText(0, 3, 1) = 2; insertText(2, 3, 1) ! bounds; apply() = 12",
                "children(0) = 1 2 11; children(2) = 3 7 8");
        Runs.run("Promise 5: what is removed in the list is a node still", Runs.SAMPLE,
                "remove(1) = 1; rename(5, 3) = 2; insertText(1, 2, 1) = 3; apply() = 6; isThere(1) = false",
                "rename(1, 3) ! bounds");
    }

    private static void names() {
        String[] wrong = {"-1", "8", "MAX", "MIN"};
        Runs.refused("Promise 2: name is out of range", Runs.RICH, "insertElement(0, 0, #)", "argument", wrong);
        Runs.refused("Promise 4: name is out of range", Runs.RICH, "insertAttribute(0, #, 1)", "argument", wrong);
        Runs.refused("Promise 6: name is out of range", Runs.RICH, "rename(2, #)", "argument", wrong);
        Runs.run("Promise 2: names 0 to 7",
                "insertElement(0, 0, 0) = 1; insertElement(0, 0, 7) = 2; apply() = 3; name(1) = 0; name(2) = 7");
        Runs.run("Promise 4: names 0 to 7",
                "insertAttribute(0, 0, 1) = 1; insertAttribute(0, 7, 1) = 2; apply() = 3; name(1) = 0; name(2) = 7");
        Runs.run("Promise 6: names 0 to 7", Runs.SAMPLE,
                "rename(1, 0) = 1; rename(2, 7) = 2; rename(10, 7) = 3; rename(9, 0) = 4; apply() = 11; name(1) = 0",
                "name(2) = 7; name(10) = 7; name(9) = 0");
        Runs.run("Promise 6: the root too", Runs.SAMPLE, "rename(0, 7) = 1; apply() = 11; name(0) = 7");
        Runs.run("Promise 6: to the name that it has", Runs.SAMPLE, "rename(1, 1) = 1; apply() = 11; name(1) = 1");
    }

    private static void values() {
        String[] wrong = {"-1", "1000", "MAX", "MIN"};
        Runs.refused("Promise 3: value is out of range", Runs.RICH, "insertText(0, 0, #)", "argument", wrong);
        Runs.refused("Promise 4: value is out of range", Runs.RICH, "insertAttribute(0, 0, #)", "argument", wrong);
        Runs.refused("Promise 7: value is out of range", Runs.RICH, "setValue(3, #)", "argument", wrong);
        Runs.run("Promise 3: values 0 to 999",
                "insertText(0, 0, 0) = 1; insertText(0, 0, 999) = 2; apply() = 3; value(1) = 0; value(2) = 999");
        Runs.run("Promise 4: values 0 to 999",
                "insertAttribute(0, 0, 0) = 1; insertAttribute(0, 7, 999) = 2; apply() = 3; value(1) = 0",
                "value(2) = 999");
        Runs.run("Promise 7: values 0 to 999", Runs.SAMPLE,
                "setValue(3, 0) = 1; setValue(8, 999) = 2; setValue(4, 999) = 3; setValue(9, 0) = 4; apply() = 11",
                "value(3) = 0; value(8) = 999; value(4) = 999; value(9) = 0");
    }

    private static void spaces() {
        Runs.refused("Promise 9: space is out of range", Runs.RICH, "declare(1, #)", "argument", "-2", "4", "MAX",
                "MIN");
        Runs.run("Promise 9: spaces 0 to 3", Runs.SAMPLE,
                "declare(0, 3) = 1; declare(1, 0) = 2; apply() = 11; space(0) = 3; space(1) = 0; space(5) = 0",
                "space(2) = 3");
        Runs.run("Promise 9: NONE takes the declaration away", Runs.SAMPLE,
                "declare(0, 3); declare(1, 2); apply(); space(5) = 2; declare(1, NONE) = 1; apply(); space(5) = 3",
                "declare(0, NONE); apply(); space(5) = 0");
        Runs.run("Promise 9: NONE where none is declared", Runs.SAMPLE,
                "declare(1, NONE) = 1; apply() = 11; space(1) = 0");
    }

    private static void nodes() {
        String[] calls = {"5: remove(#)", "6: rename(#, 1)", "7: setValue(#, 1)", "8: move(#, 0, 0)",
            "9: declare(#, 1)"};
        for (String each : calls) {
            String call = each.substring(3);
            Runs.refused("Promise " + each.charAt(0) + ": there is no such node", Runs.RICH, call, "bounds",
                    Runs.NO_NODES);
        }
    }

    private static void wrongKinds() {
        Runs.refused("Promise 5: it is the root", Runs.RICH, "remove(#)", "state", "0");
        Runs.refused("Promise 6: it is a text", Runs.RICH, "rename(#, 1)", "state", "3", "6", "8");
        Runs.refused("Promise 7: it is an element", Runs.RICH, "setValue(#, 1)", "state", "0", "1", "7");
        Runs.refused("Promise 8: node is the root or an attribute", Runs.RICH, "move(#, 1, 0)", "state", "0", "4", "9");
        Runs.refused("Promise 8: the root into itself", Runs.RICH, "move(#, 0, 0)", "state", "0");
        Runs.refused("Promise 9: it is no element", Runs.RICH, "declare(#, 1)", "state", "3", "4", "6");
        Runs.run("Promise 5: an element, a text, an attribute", Runs.SAMPLE,
                "remove(7) = 1; remove(3) = 2; remove(4) = 3; apply() = 8");
        Runs.run("Promise 6: an element, an attribute", Runs.SAMPLE,
                "rename(7, 3) = 1; rename(4, 2) = 2; apply() = 11; name(4) = 2");
        Runs.run("Promise 7: a text, an attribute", Runs.SAMPLE,
                "setValue(3, 8) = 1; setValue(4, 9) = 2; apply() = 11; value(4) = 9");
        Runs.run("Promise 8: an element, a text", Runs.SAMPLE,
                "move(7, 0, 0) = 1; move(3, 0, 0) = 2; apply() = 11; children(0) = 7 3 1 2");
        Runs.run("Promise 9: the root too", Runs.SAMPLE, "declare(0, 1) = 1; apply() = 11; space(0) = 1");
    }

    private static void twentyUpdates() {
        String[] calls = {"2: insertElement(0, 0, 1)", "3: insertText(0, 0, 1)", "4: insertAttribute(0, 1, 1)",
            "5: remove(2)", "6: rename(2, 1)", "7: setValue(3, 1)", "8: move(3, 0, 0)", "9: declare(1, 1)"};
        for (String each : calls) {
            String title = "Promise " + each.charAt(0) + ": there are 20 updates";
            String call = each.substring(3);
            Runs.run(title, Runs.RICH, "16 times insertText(0, 0, 1) = 19", call + " = 20", call + " ! state",
                    "insertText(0, 0, 1) ! state; forget() = 20", call + " = 1");
            Runs.run(title + " no more when they are done", Runs.RICH, "17 times insertText(0, 0, 1) = 20",
                    call + " ! state", "apply() = 29", call + " = 1");
        }
    }

    /** The first line of a method's throws clause that applies decides. */
    private static void firstLineDecides() {
        String full = Runs.RICH + "17 times insertText(0, 0, 1) = 20\n";
        Runs.run("Promise 2: no node or place ahead of the range, that ahead of the kind and the room", full,
                "insertElement(11, 0, 8) ! bounds; insertElement(0, 4, 8) ! bounds; insertElement(3, 1, 8) ! bounds",
                "insertElement(3, 1, 1) ! bounds; insertElement(3, 0, 8) ! argument",
                "insertElement(0, 0, 8) ! argument; insertElement(0, 4, 1) ! bounds; insertElement(3, 0, 1) ! state",
                "insertElement(0, 0, 1) ! state");
        Runs.run("Promise 3: no node or place ahead of the range, that ahead of the kind and the room", full,
                "insertText(11, 0, 1000) ! bounds; insertText(0, 4, 1000) ! bounds; insertText(3, 1, -1) ! bounds",
                "insertText(3, 1, 1) ! bounds; insertText(3, 0, -1) ! argument; insertText(0, 0, 1000) ! argument",
                "insertText(0, 4, 1) ! bounds; insertText(3, 0, 1) ! state; insertText(0, 0, 1) ! state");
        Runs.run("Promise 4: no node ahead of the ranges, these ahead of the kind and the room", full,
                "insertAttribute(11, 8, 1000) ! bounds; insertAttribute(3, 8, 1) ! argument",
                "insertAttribute(3, 1, -1) ! argument; insertAttribute(0, 8, 1) ! argument",
                "insertAttribute(0, 1, 1000) ! argument; insertAttribute(0, 1, 1) ! state");
        Runs.run("Promise 5: no node ahead of the room", full,
                "remove(11) ! bounds; remove(0) ! state; remove(1) ! state");
        Runs.run("Promise 6: no node ahead of the range, that ahead of the kind and the room", full,
                "rename(11, 8) ! bounds; rename(11, 1) ! bounds; rename(3, 8) ! argument; rename(1, 8) ! argument",
                "rename(1, 1) ! state");
        Runs.run("Promise 7: no node ahead of the range, that ahead of the kind and the room", full,
                "setValue(11, 1000) ! bounds; setValue(0, 1000) ! argument; setValue(3, -1) ! argument",
                "setValue(3, 1) ! state");
        Runs.run("Promise 8: no node or place ahead of the kinds and the room", full,
                "move(0, 11, 0) ! bounds; move(0, 1, 9) ! bounds; move(4, 0, -1) ! bounds; move(11, 3, 0) ! bounds",
                "move(8, 3, 1) ! bounds; move(8, 0, 4) ! bounds; move(8, 0, 0) ! state");
        Runs.run("Promise 9: no node ahead of the range, that ahead of the kind and the room", full,
                "declare(11, 4) ! bounds; declare(3, 4) ! argument; declare(1, -2) ! argument; declare(1, 1) ! state");
    }

    private static void forget() {
        Runs.run("Promise 11: of an empty list", "forget() = 0; forget() = 0; apply() = 1");
        Runs.run("Promise 11: of a full list",
                "20 times insertText(0, 0, 1) = 20; forget() = 20; forget() = 0; apply() = 1; made() = 1");
        Runs.run("Promise 11: of one update", Runs.SAMPLE, "remove(1); forget() = 1; apply() = 11; isThere(1) = true");
        Runs.run("Promise 11: of a list that cannot be done", Runs.SAMPLE,
                "2 times rename(1, 3) = 2; apply() ! state; forget() = 2; apply() = 11; name(1) = 1");
        Runs.run("Promise 11: of a list that is done", Runs.SAMPLE, "remove(1); apply(); forget() = 0");
    }

    private static void placesThatAreDone() {
        Runs.run("Promise 10: at each place what is put there, in the order of the list, then the child",
                "insertElement(0, 0, 1); insertElement(0, 0, 2); apply() = 3; children(0) = 1 2; insertText(0, 2, 1)",
                "insertText(0, 1, 2); insertText(0, 0, 3); insertText(0, 2, 4); insertText(0, 0, 5); apply() = 8",
                "children(0) = 5 7 1 4 2 3 6");
        Runs.run("Promise 10: into an element without children", Runs.SAMPLE,
                "insertText(5, 0, 1); move(8, 5, 0); insertElement(5, 0, 1); apply() = 13; children(5) = 11 8 12",
                "children(2) = 7");
        Runs.run("Promise 10: a child that is removed or moved is left out, what is put to its place is not",
                Runs.SAMPLE, "remove(2); move(3, 0, 0); insertText(0, 1, 4); insertText(0, 2, 5); insertText(0, 3, 6)",
                "apply() = 11; children(0) = 3 1 11 12 13");
        Runs.run("Promise 10: all children go", Runs.SAMPLE,
                "remove(1); remove(2); remove(3); apply() = 2; children(0) = ; child(0, 0) = NONE");
        Runs.run("Promise 10: moved to the place where it is, and to the one behind it", Runs.SAMPLE,
                "move(2, 0, 1); apply(); children(0) = 1 2 3; move(2, 0, 2); apply(); children(0) = 1 2 3",
                "move(2, 0, 3); apply(); children(0) = 1 3 2");
        Runs.run("Promise 10: attributes stand by rising names, not by the list",
                "insertAttribute(0, 7, 1); insertAttribute(0, 0, 2); insertAttribute(0, 3, 3); apply() = 4",
                "path() = 0; step(0, ATTRIBUTES, ANY, NONE) = 1; listed(0) = 2 3 1; rename(1, 1); rename(2, 6)",
                "apply(); listed(0) = 1 3 2");
    }

    private static void numbersOfInserted() {
        Runs.run("Promise 10: what is inserted gets the next numbers, in the order of the list", Runs.SAMPLE,
                "insertText(2, 0, 21); insertAttribute(0, 0, 22); remove(3); insertElement(0, 0, 6); apply() = 13",
                "kind(11) = TEXT; parent(11) = 2; kind(12) = ATTRIBUTE; value(12) = 22; kind(13) = ELEMENT",
                "name(13) = 6; made() = 14");
        Runs.run("Promise 10: numbers of gone nodes do not come again",
                "insertText(0, 0, 1); apply(); remove(1); apply() = 1; insertText(0, 0, 2); apply() = 2",
                "isThere(1) = false; child(0, 0) = 2; made() = 3");
        Runs.run("Promise 10: a list that is forgotten or refused takes no numbers",
                "insertText(0, 0, 1); forget(); insertText(0, 0, 1); 2 times rename(0, 1); apply() ! state",
                "forget() = 3; insertText(0, 0, 2); apply() = 2; value(1) = 2");
    }

    private static void oneKindTwice() {
        String[] twice = {"rename(1, 5)", "rename(4, 5)", "setValue(3, 1)", "setValue(4, 1)", "declare(1, 2)",
            "declare(1, NONE)", "move(8, 0, 0)", "move(1, 2, 0)"};
        for (String each : twice) {
            Runs.run("Promise 10: two of one kind and of one node, " + each, Runs.SAMPLE, each, "insertText(0, 0, 1)",
                    each, "apply() ! state; forget() = 3", each, "apply() = 11");
        }
        Runs.run("Promise 10: two of one kind, of one node, that ask for different things", Runs.SAMPLE,
                "rename(1, 5); rename(1, 6); apply() ! state; forget(); setValue(3, 1); setValue(3, 2)",
                "apply() ! state; forget(); declare(1, 1); declare(1, NONE); apply() ! state; forget()",
                "move(8, 0, 0); move(8, 1, 0); apply() ! state");
        Runs.run("Promise 10: two of one kind and of two nodes", Runs.SAMPLE,
                "rename(1, 5); rename(2, 5); setValue(3, 1); setValue(4, 1); declare(1, 1); declare(2, 1)",
                "move(7, 0, 0); move(8, 0, 0); apply() = 11; children(0) = 7 8 1 2 3");
        Runs.run("Promise 10: one of each kind of one node", Runs.SAMPLE,
                "rename(1, 5); declare(1, 1); move(1, 0, 3); insertText(1, 0, 1); insertAttribute(1, 5, 1)",
                "apply() = 13; name(1) = 5; space(1) = 1; children(0) = 2 3 1");
        Runs.run("Promise 10: a RENAME, a VALUE and a REMOVE of one attribute", Runs.SAMPLE,
                "rename(4, 5); setValue(4, 5); remove(4); apply() = 10; isThere(4) = false");
        Runs.run("Promise 10: INSERTs and REMOVEs may be the same", Runs.SAMPLE,
                "2 times insertText(0, 0, 1); 2 times remove(1); apply() = 8; children(0) = 11 12 2 3");
        Runs.run("Promise 10: the first and the last of twenty", Runs.SAMPLE,
                "rename(1, 5); 18 times insertText(0, 0, 1) = 19; rename(1, 6) = 20; apply() ! state");
    }

    private static void movedAndRemoved() {
        Runs.run("Promise 10: one moves a node that another one removes itself", Runs.SAMPLE,
                "move(7, 0, 0); remove(7); apply() ! state; forget() = 2; remove(7); move(7, 0, 0); apply() ! state");
        Runs.run("Promise 10: a node moves that is removed with one above it", Runs.SAMPLE,
                "move(7, 0, 0); remove(2); apply() = 9; children(0) = 7 1 3; isThere(8) = false");
        Runs.run("Promise 10: a node moves whose child is removed", Runs.SAMPLE,
                "move(2, 0, 0); remove(7); apply() = 10; children(0) = 2 1 3; children(2) = 8");
    }

    private static void twins() {
        Runs.run("Promise 10: an attribute of a name that the element has", Runs.SAMPLE,
                "insertAttribute(1, 2, 1); apply() ! state; forget() = 1; insertAttribute(1, 1, 1); apply() = 12");
        Runs.run("Promise 10: two new ones of a name",
                "insertAttribute(0, 7, 1); insertAttribute(0, 7, 2); apply() ! state");
        Runs.run("Promise 10: of a name in two elements", Runs.SAMPLE,
                "insertAttribute(2, 2, 1); insertAttribute(0, 2, 2); apply() = 13");
        Runs.run("Promise 10: one is renamed to the name of another one", Runs.SAMPLE,
                "rename(10, 2); apply() ! state");
        Runs.run("Promise 10: one is renamed to the name of a new one", Runs.SAMPLE,
                "rename(10, 7); insertAttribute(1, 7, 1); apply() ! state");
        Runs.run("Promise 10: what counts is what would be there then", Runs.SAMPLE,
                "rename(10, 2); rename(9, 0); apply() = 11; name(10) = 2; remove(9); insertAttribute(1, 0, 4)",
                "apply() = 11; rename(10, 5); insertAttribute(1, 2, 5); apply() = 12");
        Runs.run("Promise 10: twins in an element that is gone then", Runs.SAMPLE,
                "insertAttribute(7, 1, 1); insertAttribute(7, 1, 2); remove(2); apply() = 8; made() = 13");
        Runs.run("Promise 10: an element has attributes of all eight names, and no ninth",
                "insertAttribute(0, 0, 1); insertAttribute(0, 1, 1); insertAttribute(0, 2, 1)",
                "insertAttribute(0, 3, 1); insertAttribute(0, 4, 1); insertAttribute(0, 5, 1)",
                "insertAttribute(0, 6, 1); insertAttribute(0, 7, 1); apply() = 9; insertAttribute(0, 0, 1)",
                "apply() ! state; forget(); insertAttribute(0, 7, 1); apply() ! state");
    }

    private static void belowItself() {
        Runs.run("Promise 10: a node comes below itself, at once", Runs.SAMPLE, "move(1, 1, 0); apply() ! state");
        Runs.run("Promise 10: a node comes below its child", Runs.SAMPLE, "move(1, 5, 0); apply() ! state");
        Runs.run("Promise 10: two nodes come below one another", Runs.SAMPLE,
                "move(1, 2, 0); move(2, 1, 0); apply() ! state");
        Runs.run("Promise 10: three nodes come below one another", Runs.SAMPLE,
                "insertElement(0, 0, 1); apply() = 12; move(1, 2, 0); move(2, 11, 0); move(11, 1, 0)",
                "apply() ! state");
        Runs.run("Promise 10: two of the three do not", Runs.SAMPLE,
                "insertElement(0, 0, 1); apply() = 12; move(1, 2, 0); move(2, 11, 0); apply() = 12; parent(1) = 2",
                "parent(2) = 11; parent(11) = 0");
        Runs.run("Promise 10: below a child that leaves it by the same list", Runs.SAMPLE,
                "move(5, 2, 0); move(1, 5, 0); apply() = 11; parent(1) = 5; parent(5) = 2");
        Runs.run("Promise 10: below itself among what is removed", Runs.SAMPLE,
                "move(7, 7, 0); remove(2); apply() ! state");
        Runs.run("Promise 10: a chain of all nodes, its last one above its first one",
                "insertElement(0, 0, 1); apply()", chain(),
                "nodes() = 60; move(1, 59, 0); apply() ! state; forget(); move(59, 1, 0); apply() = 60",
                "parent(59) = 1");
    }

    private static String chain() {
        StringBuilder calls = new StringBuilder();
        for (int node = 1; node < 59; node++) {
            calls.append("insertElement(").append(node).append(", 0, 1); apply()\n");
        }
        return calls.toString();
    }

    private static void sixtyNodes() {
        String forty = "20 times insertText(0, 0, 1); apply() = 21; 20 times insertText(0, 0, 1); apply() = 41\n";
        Runs.run("Promise 10: 60 nodes", forty,
                "19 times insertText(0, 0, 1) = 19; apply() = 60; made() = 60; isThere(59) = true",
                "isThere(60) = false; apply() = 60");
        Runs.run("Promise 10: more than 60 nodes", forty,
                "20 times insertText(0, 0, 1) = 20; apply() ! state; forget() = 20; made() = 41",
                "19 times insertText(0, 0, 1); apply() = 60; insertText(0, 0, 1) = 1; apply() ! state");
        Runs.run("Promise 10: gone nodes count", forty,
                "19 times insertText(0, 0, 1); apply() = 60; remove(1); apply() = 59; insertText(0, 0, 1)",
                "apply() ! state; forget(); insertElement(0, 0, 1); apply() ! state; forget()",
                "insertAttribute(0, 0, 1); apply() ! state");
        Runs.run("Promise 10: a REMOVE of the same list makes no room", forty,
                "19 times insertText(0, 0, 1); remove(1) = 20; apply() = 59; insertText(0, 0, 1); remove(2)",
                "apply() ! state");
        Runs.run("Promise 10: what is inserted below a removed node counts", forty,
                "18 times insertText(0, 0, 1); insertElement(0, 0, 1); apply() = 60; insertText(59, 0, 1)",
                "remove(59); apply() ! state; forget(); remove(59); apply() = 59");
        Runs.run("Promise 10: other updates still are done", forty,
                "19 times insertText(0, 0, 1); apply() = 60; setValue(59, 7); move(59, 0, 59); declare(0, 1)",
                "apply() = 60; child(0, 59) = NONE; child(0, 58) = 59; number(59) = 976");
    }

    private static void strictly() {
        String strict = 
                "nameType(0, 0); nameType(1, 1); arc(0, 0, 1, 1); setFinal(0, 1, true); setStrict(true) = false\n";
        Runs.run("Promise 10: the schema is strict, and the tree would not be valid", strict,
                "insertElement(0, 0, 2); apply() ! state; forget() = 1; insertText(0, 0, 1); apply() ! state",
                "forget(); insertAttribute(0, 0, 1); apply() ! state; forget(); 2 times insertElement(0, 0, 1)",
                "apply() ! state; forget(); rename(0, 1); apply() ! state; nodes() = 1");
        Runs.run("Promise 10: it would be valid", strict,
                "insertElement(0, 0, 1); apply() = 2; isValid() = true; insertElement(0, 0, 1); remove(1)",
                "apply() = 2; children(0) = 2");
        Runs.run("Promise 10: the schema is not strict any more", strict,
                "setStrict(false) = true; insertElement(0, 0, 2); apply() = 2; isValid() = false");
        Runs.run("Promise 10: an empty list", strict, "apply() = 1");
    }

    private static void belowRemoved() {
        Runs.run("Promise 10: what is done below a removed node goes with it", Runs.SAMPLE,
                "remove(2); insertText(2, 0, 1); insertElement(7, 0, 1); insertAttribute(7, 0, 1); move(3, 7, 0)",
                "rename(7, 3); setValue(8, 1); declare(7, 2); apply() = 7; children(0) = 1; isThere(3) = false",
                "isThere(11) = false; isThere(12) = false; made() = 14");
        Runs.run("Promise 10: removed twice, itself and with one above it", Runs.SAMPLE,
                "remove(7); remove(2); apply() = 8");
        Runs.run("Promise 10: what is moved below a moved node that is removed with one above it goes", Runs.SAMPLE,
                "move(5, 2, 0); move(3, 5, 0); remove(2); apply() = 6; children(0) = 1; children(1) = 6");
        Runs.run("Promise 10: moved below its own child that is removed", Runs.SAMPLE,
                "remove(7); move(2, 7, 0); apply() = 8; children(0) = 1 3");
    }

    private static void applied() {
        Runs.run("Promise 10: an empty list", "apply() = 1; apply() = 1; made() = 1; numbered() = 0");
        Runs.run("Promise 10: an empty list behind another one",
                "insertAttribute(0, 0, 1); apply() = 2; apply() = 2; insertText(0, 0, 1); apply() = 3; apply() = 3",
                "children(0) = 2; path(); step(0, ATTRIBUTES, ANY, NONE); listed(0) = 1");
        Runs.run("Promise 10: a short list behind a long one",
                "insertText(0, 0, 1); insertAttribute(0, 3, 1); insertText(0, 0, 2); apply() = 4",
                "insertText(0, 0, 3); apply() = 5; children(0) = 4 1 3; insertAttribute(0, 4, 1); apply() = 6",
                "children(0) = 4 1 3; path(); step(0, ATTRIBUTES, ANY, NONE); listed(0) = 2 5");
        Runs.run("Promise 10: the list is empty then", Runs.SAMPLE,
                "remove(3); apply() = 10; apply() = 10; forget() = 0");
        Runs.run("Promise 10: the list stays if it cannot be done", Runs.SAMPLE,
                "rename(1, 5) = 1; rename(1, 6) = 2; apply() ! state; rename(2, 6) = 3; apply() ! state",
                "forget() = 3");
        Runs.run("Promise 10: a full list", Runs.SAMPLE,
                "20 times insertText(0, 3, 1) = 20; apply() = 31; child(0, 3) = 11; child(0, 22) = 30",
                "child(0, 23) = NONE");
        String[] clashes = {"rename(1, 5)", "move(6, 0, 0)", "remove(6)", "insertAttribute(1, 0, 1)", "move(1, 5, 0)",
            "rename(10, 2)"};
        for (String each : clashes) {
            Runs.run("Promise 10: a list that cannot be done changes nothing", Runs.RICH,
                    each + " = 4; apply() ! state");
        }
        Runs.run("Promise 10: a refused call leaves the list",
                "insertText(0, 0, 1) = 1; insertText(MIN, 0, 1) ! bounds; insertText(0, 0, MAX) ! argument",
                "remove(0) ! state; apply() = 2");
    }

    private static void rootStays() {
        Runs.run("Promise 5: the root is always there", Runs.SAMPLE,
                "remove(0) ! state; remove(1); remove(2); remove(3); remove(4); apply() = 1; isThere(0) = true",
                "parent(0) = NONE; number(0) = 16; name(0) = 0");
    }
}
