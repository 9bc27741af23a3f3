/** Promises 50 to 56: each sentence of the document that names a bound of the words, versions and readers. */
public final class VersionBoundsTest {
    private static final String[] NO_VERSIONS = {"-1", "2", "5", "6", "MAX", "MIN"};

    public static void main(String[] args) {
        ranked();
        rankedOrder();
        keep();
        take();
        takeWithList();
        takeStrictly();
        takenNumbers();
        takenNodes();
        distance();
        distanceOfEachTwo();
        distanceOfOneEdit();
        distanceOfSeveral();
        distanceOfRoot();
        distanceOfAttributes();
        distanceOfSixty();
        odds();
        oddsOfOneThing();
        oddsOfSeveralThings();
        oddsOfGone();
        oddsOfNothing();
        hide();
        hidden();
        hiddenRoot();
        isSeen();
        Due.end();
    }

    private static void ranked() {
        Runs.refused("Promise 50: place is below 0", Runs.RICH, "ranked(5, #)", "bounds", "-1", "MIN");
        Runs.refused("Promise 50: word is out of range", Runs.RICH, "ranked(#, 0)", "argument", "-1", "1000", "MAX",
                "MIN");
        Runs.refused("Promise 50: neither place nor word", Runs.RICH, "ranked(#, -1)", "bounds", "-1", "1000");
        Runs.run("Promise 50: words 0 to 999",
                "insertText(0, 0, 0); insertText(0, 0, 999); apply(); ranked(0, 0) = 0; ranked(999, 0) = 0",
                "ranked(1, 0) = NONE");
        Runs.run("Promise 50: NONE if there are not so many", Runs.SAMPLE,
                "ranked(5, 0) = 2; ranked(5, 1) = 0; ranked(5, 2) = NONE; ranked(5, MAX) = NONE",
                "ranked(5, 64) = NONE; ranked(6, 0) = NONE");
        Runs.run("Promise 50: values of attributes are no words", Runs.SAMPLE,
                "ranked(7, 0) = NONE; ranked(20, 0) = NONE; ranked(30, 0) = NONE");
        Runs.run("Promise 50: by all nodes, for a reader too", Runs.RICH,
                "rank(9) = 1 0; readAsReader(true); rank(9) = 1 0");
        Runs.run("Promise 50: the texts that are there", Runs.SAMPLE,
                "setValue(6, 5); rank(9) = 1 0; apply(); rank(9) = ; rank(5) = 0 1 2; remove(8); apply()",
                "rank(5) = 0 1");
    }

    private static void rankedOrder() {
        Runs.run("Promise 50: of the same those ahead in the document", Runs.SAMPLE,
                "setValue(6, 5); move(2, 0, 0); apply(); rank(5) = 0 2 1");
        Runs.run("Promise 50: all texts below, however deep",
                "insertElement(0, 0, 1); apply(); insertElement(1, 0, 1); apply(); insertText(2, 0, 5)",
                "insertText(1, 0, 6); apply(); rank(5) = 2 0 1; rank(6) = 0 1");
        Runs.run("Promise 50: quotients that are close, 1 of 2, 3 of 5, 4 of 7",
                "insertElement(0, 0, 1); insertElement(0, 0, 1); apply(); insertText(1, 0, 5); insertText(1, 0, 6)",
                "apply(); 3 times insertText(2, 0, 5); 2 times insertText(2, 0, 6); apply(); rank(5) = 2 0 1",
                "rank(6) = 1 0 2");
        Runs.run("Promise 50: the same quotient of other numbers, 1 of 2 and 2 of 4 and 3 of 6",
                "insertElement(0, 0, 1); insertElement(0, 0, 1); apply(); insertText(2, 0, 5); insertText(2, 0, 6)",
                "2 times insertText(1, 0, 5); 2 times insertText(1, 0, 6); apply(); rank(5) = 0 1 2; rank(6) = 0 1 2");
    }

    private static void keep() {
        Runs.run("Promise 51: there are 6", Runs.RICH,
                "keep() = 2; keep() = 3; keep() = 4; keep() = 5; keep() ! state; forget(); take(5) = 11",
                "keep() ! state");
        Runs.run("Promise 51: the tree, not the list", Runs.SAMPLE,
                "remove(1); keep() = 0; apply(); keep() = 1; distance(0, 1) = 5; take(0) = 11");
    }

    private static void take() {
        Runs.refused("Promise 52: there is no such version", Runs.RICH + "forget()\n", "take(#)", "bounds",
                NO_VERSIONS);
        Runs.refused("Promise 52: there is no such version, and a list", Runs.RICH, "take(#)", "bounds", NO_VERSIONS);
        Runs.run("Promise 52: the first and the last of 6",
                "keep(); insertText(0, 0, 1); apply(); 5 times keep() = 5; take(0) = 1; take(5) = 2",
                "take(6) ! bounds; take(0) = 1");
    }

    private static void takeWithList() {
        Runs.run("Promise 52: the list of updates is not empty", Runs.RICH,
                "take(0) ! state; take(1) ! state; forget() = 3; take(0) = 12; remove(1) = 1; take(0) ! state",
                "apply(); take(0) = 12");
    }

    private static void takeStrictly() {
        String strict = "keep() = 0; insertElement(0, 0, 1); apply(); keep() = 1; nameType(0, 0); nameType(1, 1)\n"
                + "arc(0, 0, 1, 1); setFinal(0, 0, false); setFinal(0, 1, true)\n";
        Runs.run("Promise 52: the schema is strict, and that tree is not valid", strict,
                "setStrict(true) = false; take(0) ! state; take(1) = 2; take(0) ! state; nodes() = 2");
        Runs.run("Promise 52: the schema is not strict", strict,
                "take(0) = 1; isValid() = false; setStrict(true) ! state; take(1) = 2; setStrict(true) = false");
        Runs.run("Promise 52: a list and a tree that is not valid", strict,
                "setStrict(true); insertText(0, 0, 1); take(0) ! state; take(1) ! state; take(2) ! bounds");
    }

    private static void takenNumbers() {
        Runs.run("Promise 52: numbered anew, 16, 32, and so on", Runs.SAMPLE,
                "keep(); number(5) = 37; take(0) = 11; number(0) = 16; number(1) = 32; number(5) = 48",
                "number(6) = 64; number(2) = 80; number(7) = 96; number(8) = 112; number(3) = 128; number(4) = NONE",
                "number(10) = NONE; numbered() = 0");
        Runs.run("Promise 52: a root alone",
                "keep(); 20 times insertText(0, 0, 1); apply(); take(0) = 1; number(0) = 16; insertText(0, 0, 1)",
                "apply(); number(21) = 32");
    }

    private static void takenNodes() {
        Runs.run("Promise 52: nodes that are not in it are gone", Runs.SAMPLE,
                "keep(); insertElement(0, 0, 1); apply(); keep(); take(0) = 11; isThere(11) = false",
                "kind(11) ! bounds; made() = 12; insertText(0, 0, 7); apply() = 12; value(12) = 7; take(1) = 12",
                "isThere(11) = true; isThere(12) = false; children(0) = 11 1 2 3; made() = 13");
        Runs.run("Promise 52: the tree is as it was then", Runs.SAMPLE,
                "declare(1, 2); apply(); keep(); rename(1, 7); setValue(3, 0); setValue(4, 0); declare(1, NONE)",
                "move(7, 1, 0); remove(8); remove(9); apply() = 9; take(0) = 11; name(1) = 1; value(3) = 5",
                "value(4) = 7; space(1) = 2; parent(7) = 2; value(8) = 5; value(9) = 30; children(2) = 7 8",
                "children(1) = 5 6");
        Runs.run("Promise 52: all 60 nodes",
                "20 times insertText(0, 0, 1); apply(); 20 times insertText(0, 0, 1); apply()",
                "19 times insertText(0, 0, 1); apply() = 60; keep(); remove(1); remove(59); apply() = 58",
                "take(0) = 60; isThere(59) = true; number(20) = 960; insertText(0, 0, 1); apply() ! state");
    }

    private static void distance() {
        Runs.refused("Promise 53: there is no such version", Runs.RICH, "distance(#, 0)", "bounds", NO_VERSIONS);
        Runs.refused("Promise 53: there is no such other version", Runs.RICH, "distance(0, #)", "bounds", NO_VERSIONS);
        Runs.run("Promise 53: neither", Runs.RICH, "distance(2, 2) ! bounds; distance(-1, -1) ! bounds");
        Runs.run("Promise 53: of a version and itself, of two that are alike", Runs.SAMPLE,
                "keep(); keep(); distance(0, 0) = 0; distance(1, 1) = 0; distance(0, 1) = 0; distance(1, 0) = 0");
        Runs.run("Promise 53: of roots alone",
                "keep(); keep(); distance(0, 1) = 0; rename(0, 1); apply(); keep(); distance(0, 2) = 1",
                "distance(2, 0) = 1");
        Runs.run("Promise 53: other nodes that look alike", Runs.SAMPLE,
                "keep(); remove(3); insertText(0, 3, 5); apply(); keep(); distance(0, 1) = 0");
        Runs.run("Promise 53: of the first and the last of 6", Runs.SAMPLE,
                "5 times keep(); remove(3); apply(); keep() = 5; distance(0, 5) = 1; distance(5, 0) = 1",
                "distance(5, 5) = 0");
    }

    /** Each version has one text more than the one ahead of it. */
    private static void distanceOfEachTwo() {
        StringBuilder calls = new StringBuilder("keep()\n");
        for (int version = 1; version < 6; version++) {
            calls.append("insertText(0, 0, 1); apply(); keep() = ").append(version).append('\n');
        }
        for (int pair = 0; pair < 72; pair++) {
            int version = pair / 6 % 6;
            int other = pair % 6;
            calls.append("distance(" + version + ", " + other + ") = " + Math.abs(version - other) + "\n");
        }
        Runs.run("Promise 53: of each two of 6, asked twice", calls.toString());
    }

    private static void distanceOfOneEdit() {
        String[] edits = {"rename(1, 7)", "declare(1, 2)", "declare(1, 0)", "rename(1, 7); declare(1, 3)",
            "setValue(3, 6)", "setValue(6, 6)", "setValue(4, 6)", "rename(4, 5)", "rename(4, 5); setValue(4, 6)",
            "remove(3)", "remove(4)", "remove(7)", "insertText(0, 0, 1)", "insertElement(5, 0, 1)",
            "insertAttribute(0, 1, 1)", "remove(3); insertElement(0, 3, 5)", "remove(4); insertElement(0, 0, 3)",
            "move(7, 0, 1); move(8, 0, 1); remove(2)"};
        for (String each : edits) {
            Runs.run("Promise 53: one edit, " + each, Runs.SAMPLE, "keep()", each,
                    "apply(); keep(); distance(0, 1) = 1; distance(1, 0) = 1");
        }
        Runs.run("Promise 53: one put in round some neighbours", Runs.SAMPLE,
                "keep(); insertElement(0, 1, 6); apply(); move(2, 11, 0); move(3, 11, 0); apply(); keep()",
                "distance(0, 1) = 1; distance(1, 0) = 1");
    }

    private static void distanceOfSeveral() {
        Runs.run("Promise 53: a move is two edits", Runs.SAMPLE,
                "keep(); move(3, 0, 0); apply(); keep(); distance(0, 1) = 2");
        Runs.run("Promise 53: neighbours that do not stand together",
                "insertText(0, 0, 1); insertText(0, 0, 2); insertText(0, 0, 3); apply(); keep()",
                "insertElement(0, 3, 6); apply(); move(1, 4, 0); move(3, 4, 0); apply(); keep(); distance(0, 1) = 3");
        Runs.run("Promise 53: an element with its attributes and children", Runs.SAMPLE,
                "keep(); remove(1); apply(); keep(); distance(0, 1) = 5; distance(1, 0) = 5");
        Runs.run("Promise 53: an element out, its children in its place, its attributes not", Runs.SAMPLE,
                "keep(); move(5, 0, 0); move(6, 0, 0); remove(1); apply(); keep(); distance(0, 1) = 3");
        Runs.run("Promise 53: children in its place, in another order", Runs.SAMPLE,
                "keep(); move(8, 0, 1); move(7, 0, 1); remove(2); apply(); keep(); distance(0, 1) = 3");
        Runs.run("Promise 53: a text below is no value of an element", Runs.SAMPLE,
                "insertElement(0, 0, 1); apply(); move(1, 11, 0); apply(); keep(); setValue(6, 1); apply(); keep()",
                "distance(0, 1) = 1");
        Runs.run("Promise 53: a space is that which it declares", Runs.SAMPLE,
                "keep(); declare(0, 3); apply(); keep(); distance(0, 1) = 1");
    }

    private static void distanceOfRoot() {
        Runs.run("Promise 53: the root is edited", Runs.SAMPLE,
                "keep(); rename(0, 7); apply(); keep(); declare(0, 1); apply(); keep(); distance(0, 1) = 1",
                "distance(0, 2) = 1; distance(1, 2) = 1");
        Runs.run("Promise 53: the root out, its child in its place",
                "insertElement(0, 0, 1); apply(); insertText(1, 0, 5); apply(); keep(); rename(0, 1); move(2, 0, 0)",
                "remove(1); apply(); keep(); distance(0, 1) = 1; distance(1, 0) = 1");
        Runs.run("Promise 53: a root alone and a chain",
                "keep(); insertElement(0, 0, 0); apply(); insertElement(1, 0, 0); apply(); keep()",
                "distance(0, 1) = 2; distance(1, 0) = 2");
    }

    private static void distanceOfAttributes() {
        Runs.run("Promise 53: attributes come first, by rising names",
                "insertAttribute(0, 2, 1); insertAttribute(0, 5, 1); insertText(0, 0, 1); apply(); keep()",
                "rename(1, 4); apply(); keep(); rename(1, 6); apply(); keep(); distance(0, 1) = 1",
                "distance(0, 2) = 2; distance(1, 2) = 2");
        Runs.run("Promise 53: not by when they came",
                "insertAttribute(0, 2, 1); apply(); insertAttribute(0, 5, 1); apply(); keep(); remove(1); remove(2)",
                "insertAttribute(0, 5, 1); insertAttribute(0, 2, 1); apply(); keep(); distance(0, 1) = 0");
        Runs.run("Promise 53: ahead of all children",
                "insertText(0, 0, 1); apply(); keep(); insertAttribute(0, 7, 1); apply(); keep(); remove(2)",
                "insertElement(0, 0, 7); apply(); keep(); remove(3); insertElement(0, 2, 7); apply(); keep()",
                "distance(0, 1) = 1; distance(1, 2) = 1; distance(1, 3) = 2");
    }

    private static void distanceOfSixty() {
        Runs.run("Promise 53: of a root alone and 60 nodes",
                "keep(); 20 times insertText(0, 0, 1); apply(); 20 times insertText(0, 0, 1); apply()",
                "19 times insertText(0, 0, 1); apply() = 60; keep(); distance(0, 1) = 59; distance(1, 0) = 59",
                "distance(1, 1) = 0; setValue(1, 2); setValue(59, 2); rename(0, 2); apply(); keep()",
                "distance(1, 2) = 3; distance(0, 2) = 60");
    }

    private static void odds() {
        Runs.refused("Promise 54: there is no such version, base", Runs.RICH, "odds(#, 0, 1)", "bounds", NO_VERSIONS);
        Runs.refused("Promise 54: there is no such version, ours", Runs.RICH, "odds(0, #, 1)", "bounds", NO_VERSIONS);
        Runs.refused("Promise 54: there is no such version, theirs", Runs.RICH, "odds(0, 1, #)", "bounds", NO_VERSIONS);
        Runs.run("Promise 54: two of the three are one", Runs.RICH,
                "odds(0, 0, 0) = 0; odds(0, 0, 1) = 0; odds(0, 1, 0) = 0; odds(1, 0, 0) = 0; odds(0, 1, 1) = 0");
    }

    /** Three versions: the tree of SAMPLE, and what it becomes by two lists. */
    private static String three(String ours, String theirs, int due) {
        String answer = ") = " + due + "\n";
        return Runs.SAMPLE + "keep()\n" + ours + "; apply(); keep(); take(0)\n" + theirs + "; apply(); keep()\n"
                + "odds(0, 1, 2" + answer + "odds(2, 0, 1" + answer + "odds(1, 2, 0" + answer + "odds(2, 1, 0" + answer;
    }

    private static void oddsOfOneThing() {
        Runs.run("Promise 54: its name", three("rename(1, 6); rename(4, 6)", "rename(1, 7); rename(4, 7)", 2));
        Runs.run("Promise 54: its own value",
                three("setValue(3, 6); setValue(4, 6)", "setValue(3, 7); setValue(4, 8)", 2));
        Runs.run("Promise 54: the space that it declares", three("declare(1, 0)", "declare(1, 1)", 1));
        Runs.run("Promise 54: its parent", three("move(8, 0, 0)", "move(8, 1, 0)", 1));
        Runs.run("Promise 54: the root", three("rename(0, 6)", "rename(0, 7)", 1));
        Runs.run("Promise 54: two of them are as one", three("rename(1, 6)", "rename(1, 6)", 0), "odds(0, 1, 1) = 0");
        Runs.run("Promise 54: what both change, and what one of them changes",
                three("rename(1, 6); setValue(3, 1); declare(2, 1); move(8, 1, 0)",
                        "rename(2, 6); setValue(6, 1); declare(1, 1); move(7, 1, 0)", 2));
    }

    private static void oddsOfSeveralThings() {
        Runs.run("Promise 54: not all in the same, name and space", three("rename(1, 6)", "declare(1, 2)", 1));
        Runs.run("Promise 54: not all in the same, value and parent", three("setValue(3, 6)", "move(3, 1, 0)", 1));
        Runs.run("Promise 54: not all in the same, name and value of an attribute",
                three("rename(4, 6)", "setValue(4, 6)", 1));
        Runs.run("Promise 54: one thing the same, another one not",
                three("rename(1, 6); declare(1, 1)", "rename(1, 6); declare(1, 2)", 1));
    }

    private static void oddsOfGone() {
        Runs.run("Promise 54: gone in one, another one in the other", three("remove(3)", "setValue(3, 6)", 1));
        Runs.run("Promise 54: gone in one, as it was in the other", three("remove(3)", "rename(1, 6)", 0));
        Runs.run("Promise 54: gone in both", three("remove(3)", "remove(3)", 0));
        Runs.run("Promise 54: what is gone differs in nothing else",
                three("rename(1, 6); apply(); remove(1)", "rename(1, 7); apply(); remove(1)", 0));
        Runs.run("Promise 54: with all below it", three("remove(2)", "rename(2, 6); rename(7, 6); setValue(8, 6)", 3));
        Runs.run("Promise 54: a new node is there in one alone",
                three("insertText(0, 0, 1)", "insertText(0, 0, 2)", 0));
        Runs.run("Promise 54: there in two, and not alike",
                "keep(); insertText(0, 0, 1); apply(); keep(); setValue(1, 2); apply(); keep(); odds(0, 1, 2) = 1",
                "odds(1, 2, 0) = 1");
    }

    private static void oddsOfNothing() {
        Runs.run("Promise 54: neither its place nor its number", three("move(3, 0, 0)", "move(3, 0, 1)", 0));
        Runs.run("Promise 54: nor an element's value", three("insertText(1, 0, 1)", "insertText(1, 0, 2)", 0));
        Runs.run("Promise 54: nor the space that it has from above", three("declare(2, 1)", "declare(2, 2)", 1));
    }

    private static void hide() {
        Runs.refused("Promise 55: there is no such path", Runs.RICH, "hide(#)", "bounds", "-1", "5", "20", "MAX",
                "MIN");
        Runs.run("Promise 55: it is not hidden, and 3 are", Runs.RICH,
                "hide(2) = true; hide(3) = true; hide(4) ! state; hide(0) ! state; hide(5) ! bounds; hide(3) = false",
                "hide(4) = true; hide(3) ! state");
        Runs.run("Promise 55: it is hidden, and 3 are", Runs.RICH,
                "hide(2) = true; hide(3) = true; hide(1) = false; hide(1) = true; hide(4) ! state; hide(2) = false",
                "hide(4) = true; hide(4) = false");
        Runs.run("Promise 55: the first and the 20th path",
                "20 times path(); hide(0) = true; hide(19) = true; hide(0) = false; hide(19) = false",
                "hide(20) ! bounds");
        Runs.run("Promise 55: shown again", Runs.RICH,
                "isSeen(1) = false; hide(1) = false; isSeen(1) = true; hide(1) = true; isSeen(1) = false");
    }

    private static void hidden() {
        Runs.run("Promise 56: what it finds, and all below", Runs.SAMPLE,
                "pathOf(CHILD, 1) = 0; hide(0); isSeen(1) = false; isSeen(5) = false; isSeen(6) = false",
                "isSeen(9) = false; isSeen(10) = false; isSeen(0) = true; isSeen(2) = true; isSeen(7) = true",
                "isSeen(4) = true");
        Runs.run("Promise 56: a text, an attribute, and nothing above", Runs.SAMPLE,
                "pathOf(DESCENDANT, TEXTS) = 0; pathOf(ATTRIBUTES, ANY) = 1; hide(0); hide(1); isSeen(6) = false",
                "isSeen(4) = false; isSeen(1) = true; isSeen(0) = true; isSeen(5) = true; isSeen(9) = true");
        Runs.run("Promise 56: by several", Runs.SAMPLE,
                "pathOf(CHILD, 1) = 0; pathOf(DESCENDANT, 1) = 1; hide(0); hide(1); isSeen(1) = false",
                "isSeen(7) = false; hide(0); isSeen(1) = false; hide(1); isSeen(1) = true");
        Runs.run("Promise 56: found for all, also by a reader's paths", Runs.SAMPLE,
                "pathOf(CHILD, 1) = 0; pathOf(CHILD, 1) = 1; step(1, FOLLOWING_SIBLING, ANY, NONE)",
                "place(1, EQUAL, 1); hide(0); hide(1); readAsReader(true); isSeen(1) = false; isSeen(2) = false",
                "isSeen(3) = true; found(1, 0) = 0");
        Runs.run("Promise 56: with the tree and the path as they are", Runs.SAMPLE,
                "pathOf(DESCENDANT, 7) = 0; hide(0); isSeen(2) = true; rename(2, 7); isSeen(2) = true; apply()",
                "isSeen(2) = false; isSeen(8) = false; step(0, CHILD, TEXTS, NONE); isSeen(2) = true",
                "isSeen(8) = false; place(0, EQUAL, 2); isSeen(8) = true; keep(); take(0); isSeen(8) = true");
        Runs.run("Promise 56: a version that is taken", Runs.SAMPLE,
                "pathOf(DESCENDANT, 7) = 0; hide(0); keep(); rename(2, 7); apply(); isSeen(8) = false; take(0)",
                "isSeen(8) = true");
    }

    private static void hiddenRoot() {
        Runs.run("Promise 56: the root itself aside, and what is below it alone", Runs.SAMPLE,
                "path(); hide(0) = true; isSeen(0) = true; isSeen(1) = true; isSeen(4) = true; isSeen(8) = true");
        Runs.run("Promise 56: the root and all others", Runs.SAMPLE,
                "pathOf(DESCENDANT_OR_SELF, ANY) = 0; hide(0); isSeen(0) = true; isSeen(4) = true; isSeen(1) = false",
                "isSeen(10) = false; isSeen(3) = false");
    }

    private static void isSeen() {
        Runs.refused("Promise 56: there is no such node", Runs.RICH, "isSeen(#)", "bounds", Runs.NO_NODES);
        Runs.run("Promise 56: all if nothing is hidden", Runs.SAMPLE,
                "isSeen(0) = true; isSeen(10) = true; isSeen(3) = true; path(); readAsReader(true)",
                "isSeen(10) = true");
        Runs.run("Promise 56: whoever asks", Runs.RICH,
                "isSeen(1) = false; readAsReader(true); isSeen(1) = false; isSeen(0) = true; kind(1) = ELEMENT",
                "value(1) = 9; parent(5) = 1; nodes() = 11");
    }
}
