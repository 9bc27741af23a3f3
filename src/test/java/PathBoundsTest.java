/** Promises 23 to 35: each sentence of the document that names a bound of the paths and of what they find. */
public final class PathBoundsTest {
    private static final String[] NO_PATHS = {"-1", "5", "19", "20", "MAX", "MIN"};
    private static final String[] NO_LOWER_PATHS = {"-1", "-2", "4", "5", "20", "MAX", "MIN"};
    private static final String[] AXES = {"SELF", "CHILD", "PARENT", "DESCENDANT", "DESCENDANT_OR_SELF", "ANCESTOR",
        "ANCESTOR_OR_SELF", "FOLLOWING", "PRECEDING", "FOLLOWING_SIBLING", "PRECEDING_SIBLING", "ATTRIBUTES"};

    public static void main(String[] args) {
        paths();
        noSuchPath();
        steps();
        stepsAndConditionsAtOnce();
        allStepsAndConditions();
        stepsOutOfRange();
        stepsRepeating();
        conditions();
        conditionsOutOfRange();
        conditionsOfLowerPaths();
        closedPaths();
        firstLineDecides();
        withoutSteps();
        axesFromTheEdges();
        repeats();
        tests();
        eachOnce();
        places();
        placesBackwards();
        lasts();
        secondConditions();
        truths();
        worths();
        worthsWithoutValue();
        readAsReader();
        found();
        foundAsReader();
        foundWithoutHidden();
        foundAt();
        ordered();
        groups();
        valuesForReaders();
        Due.end();
    }

    private static void paths() {
        Runs.run("Promise 23: there are 20",
                "path() = 0; 18 times path() = 18; path() = 19; path() ! state; paths() = 20");
        Runs.run("Promise 23: there are 20, with steps and views", Runs.RICH,
                "15 times path() = 19; path() ! state; paths() = 20");
        Runs.run("Promise 23: a new path has no steps", Runs.RICH,
                "path() = 5; step(5, SELF, ANY, NONE) = 1; last(5) = 1");
        Runs.run("Promise 29: from none up to 20",
                "paths() = 0; path(); paths() = 1; 19 times path(); paths() = 20; path() ! state; paths() = 20");
    }

    private static void noSuchPath() {
        String[] calls = {"24: step(#, SELF, ANY, NONE)", "25: place(#, EQUAL, 1)", "26: last(#)",
            "27: has(#, 0, true)", "28: worth(#, 0, EQUAL, 1)", "31: found(#, 0)", "32: foundAnew(#, 0)",
            "33: foundAt(#, 0)", "34: ordered(#, 0)", "35: groups(#)"};
        for (String each : calls) {
            Runs.refused("Promise " + each.substring(0, 2) + ": there is no such path", Runs.RICH, each.substring(4),
                    "bounds", NO_PATHS);
        }
    }

    private static void steps() {
        Runs.run("Promise 24: it has 5 steps", Runs.RICH,
                "step(4, SELF, ANY, NONE) = 2; step(4, SELF, 0, NONE) = 3; step(4, PARENT, ANY, NONE) = 4",
                "step(4, CHILD, 13, NONE) = 5; step(4, SELF, ANY, NONE) ! state; step(4, REPEAT, ANY, 3) ! state",
                "path() = 5; step(5, SELF, ANY, NONE) = 1");
        Runs.run("Promise 24: 5 steps of the 20th path", Runs.SAMPLE,
                "20 times path() = 19; 5 times step(19, DESCENDANT_OR_SELF, ANY, NONE) = 5",
                "step(19, SELF, ANY, NONE) ! state; found(19, 0) = 8");
    }

    /** What was found once is not what is found later, neither for all nor for a reader. */
    private static void stepsAndConditionsAtOnce() {
        for (String reader : new String[] {"false", "true"}) {
            Runs.run("Promise 24: a step and a condition tell at once, as a reader: " + reader, Runs.SAMPLE,
                    "path() = 0; readAsReader(" + reader + "); path() = 1; listed(1) = 0; step(1, DESCENDANT, ANY, NONE)",
                    "listed(1) = 1 5 6 2 7 8 3; place(1, GREATER, 1); listed(1) = 5 6 2 7 8 3; last(1)",
                    "listed(1) = 3; step(1, PRECEDING, ANY, NONE); listed(1) = 1 5 6 2 7 8; has(1, 0, true)",
                    "listed(1) = 1 5 6 2 7 8; worth(1, 0, EQUAL, 9); listed(1) = 1 6; step(1, CHILD, ANY, NONE)",
                    "listed(1) = 5 6; has(1, 0, false); found(1, 0) = 0");
        }
        Runs.run("Promise 27: a condition tells at once", Runs.SAMPLE,
                "pathOf(CHILD, ANY) = 0; pathOf(CHILD, ANY) = 1; found(1, 0) = 3; has(1, 0, false); listed(1) = 3",
                "worth(1, 0, EQUAL, 5); found(1, 0) = 0");
        Runs.run("Promise 56: a hidden path's step and condition tell at once", Runs.SAMPLE,
                "path() = 0; hide(0) = true; isSeen(1) = true; step(0, CHILD, ANY, NONE); isSeen(1) = false",
                "place(0, GREATER, 1); isSeen(1) = true; isSeen(2) = false; last(0); isSeen(2) = true",
                "isSeen(3) = false");
    }

    private static void allStepsAndConditions() {
        Runs.run("Promise 28: all 5 steps of the 20th path, with 2 conditions each", Runs.SAMPLE,
                "pathOf(DESCENDANT_OR_SELF, TEXTS) = 0; 18 times path() = 18; path() = 19",
                "step(19, CHILD, ANY, NONE); has(19, 0, true); place(19, LESS, 3) = 2; listed(19) = 1 2",
                "step(19, DESCENDANT_OR_SELF, ANY, NONE); worth(19, 0, LESS, 10); place(19, GREATER, 1) = 2",
                "listed(19) = 6 8; step(19, PRECEDING, ANY, NONE); has(19, 0, false); place(19, EQUAL, 1) = 2",
                "listed(19) = 5 7; step(19, ANCESTOR, ANY, NONE); place(19, EQUAL, 1); worth(19, 0, EQUAL, 5) = 2",
                "listed(19) = 2; step(19, FOLLOWING_SIBLING, TEXTS, NONE) = 5; last(19)",
                "worth(19, 0, GREATER, 4) = 2; listed(19) = 3");
    }

    private static void stepsOutOfRange() {
        String[] wrong = {"-1", "14", "MAX", "MIN"};
        Runs.refused("Promise 24: axis is out of range", Runs.RICH, "step(4, #, ANY, NONE)", "argument", "-1", "13",
                "MAX", "MIN");
        Runs.refused("Promise 24: test is out of range", Runs.RICH, "step(4, SELF, #, NONE)", "argument", wrong);
        Runs.refused("Promise 24: test is out of range by REPEAT", Runs.RICH, "step(4, REPEAT, #, 0)", "argument",
                wrong);
        Runs.refused("Promise 24: by is not NONE for another axis", Runs.RICH, "step(4, #, ANY, 0)", "argument", AXES);
        Runs.refused("Promise 24: by is no path for another axis", Runs.RICH, "step(4, CHILD, ANY, #)", "argument",
                "-2", "4", "5", "MAX", "MIN");
        for (String axis : AXES) {
            Runs.run("Promise 24: axes SELF to REPEAT", Runs.RICH, "step(4, " + axis + ", ANY, NONE) = 2");
        }
        for (int test = 0; test < 14; test++) {
            Runs.run("Promise 24: tests 0 to 13", Runs.RICH, "step(4, SELF, " + test + ", NONE) = 2");
        }
    }

    private static void stepsRepeating() {
        Runs.refused("Promise 24: by is no lower path", Runs.RICH, "step(4, REPEAT, ANY, #)", "bounds", NO_LOWER_PATHS);
        Runs.run("Promise 24: the path 0 has no lower one",
                "path(); step(0, REPEAT, ANY, 0) ! bounds; step(0, REPEAT, ANY, NONE) ! bounds");
        Runs.run("Promise 24: the lowest and the highest lower path", Runs.RICH,
                "step(4, REPEAT, ANY, 0) = 2; step(4, REPEAT, 13, 3) = 3");
        Runs.run("Promise 24: the 20th path has 19 lower ones",
                "20 times path(); step(19, REPEAT, ANY, 18) = 1; step(19, REPEAT, ANY, 19) ! bounds",
                "step(19, REPEAT, ANY, 0) = 2; found(19, 0) = 1");
    }

    private static void conditions() {
        String[] calls = {"25: place(#, EQUAL, 1)", "26: last(#)", "27: has(#, 0, true)", "28: worth(#, 0, EQUAL, 1)"};
        for (String each : calls) {
            String title = "Promise " + each.substring(0, 2) + ": ";
            String call = each.substring(4);
            String of = call.replace("#", "4");
            Runs.run(title + "its last step has 2 conditions", Runs.RICH, of + " = 2", of + " ! state",
                    "step(4, SELF, ANY, NONE) = 2", of + " = 1", of + " = 2", of + " ! state");
            Runs.run(title + "it has no step", Runs.RICH, "path() = 5", call.replace("#", "5") + " ! state",
                    "step(5, SELF, ANY, NONE)", call.replace("#", "5") + " = 1");
        }
        Runs.run("Promise 25: 2 conditions, be they as they may", Runs.RICH,
                "last(4) = 2; place(4, EQUAL, 1) ! state; last(4) ! state; has(4, 0, true) ! state",
                "has(4, 0, false) ! state; worth(4, 0, EQUAL, 1) ! state");
        Runs.run("Promise 28: 2 conditions of each of 5 steps", Runs.RICH,
                "path() = 5; step(5, SELF, ANY, NONE); last(5); worth(5, 4, LESS, 9) = 2; step(5, SELF, ANY, NONE)",
                "last(5); last(5) = 2; step(5, SELF, ANY, NONE); last(5); has(5, 4, true) = 2",
                "step(5, SELF, ANY, NONE); last(5); place(5, LESS, 9) = 2; step(5, SELF, ANY, NONE); last(5)",
                "last(5) = 2; last(5) ! state");
    }

    private static void conditionsOutOfRange() {
        String[] comparisons = {"-1", "3", "MAX", "MIN"};
        Runs.refused("Promise 25: comparison is out of range", Runs.RICH, "place(4, #, 1)", "argument", comparisons);
        Runs.refused("Promise 25: number is out of range", Runs.RICH, "place(4, EQUAL, #)", "argument", "-1", "100",
                "MAX", "MIN");
        Runs.refused("Promise 28: comparison is out of range", Runs.RICH, "worth(4, 0, #, 1)", "argument", comparisons);
        Runs.refused("Promise 28: number is out of range", Runs.RICH, "worth(4, 0, EQUAL, #)", "argument", "-1", "1000",
                "MAX", "MIN");
        for (String comparison : new String[] {"EQUAL", "LESS", "GREATER"}) {
            Runs.run("Promise 25: numbers 0 to 99",
                    "path(); step(0, SELF, ANY, NONE); place(0, " + comparison + ", 0) = 1",
                    "place(0, " + comparison + ", 99) = 2");
            Runs.run("Promise 28: numbers 0 to 999",
                    "path(); path(); step(1, SELF, ANY, NONE); worth(1, 0, " + comparison + ", 0) = 1",
                    "worth(1, 0, " + comparison + ", 999) = 2");
        }
    }

    private static void conditionsOfLowerPaths() {
        Runs.refused("Promise 27: other is no lower path", Runs.RICH, "has(4, #, true)", "bounds", NO_LOWER_PATHS);
        Runs.refused("Promise 27: other is no lower path, for LACKS", Runs.RICH, "has(4, #, false)", "bounds",
                NO_LOWER_PATHS);
        Runs.refused("Promise 28: other is no lower path", Runs.RICH, "worth(4, #, EQUAL, 1)", "bounds",
                NO_LOWER_PATHS);
        Runs.run("Promise 27: the lowest and the highest lower path", Runs.RICH,
                "step(4, SELF, ANY, NONE); has(4, 0, true) = 1; has(4, 3, false) = 2");
        Runs.run("Promise 28: the lowest and the highest lower path", Runs.RICH,
                "step(4, SELF, ANY, NONE); worth(4, 0, LESS, 1) = 1; worth(4, 3, LESS, 1) = 2");
        Runs.run("Promise 27: the path 0 has no lower one",
                "path(); step(0, SELF, ANY, NONE); has(0, 0, true) ! bounds; has(0, -1, true) ! bounds",
                "worth(0, 0, EQUAL, 1) ! bounds");
    }

    private static void closedPaths() {
        String[] calls = {"24: step(#, SELF, ANY, NONE)", "25: place(#, EQUAL, 1)", "26: last(#)",
            "27: has(#, 0, true)", "28: worth(#, 0, EQUAL, 1)"};
        String two = Runs.SAMPLE + "path() = 0; path() = 1; step(1, CHILD, ANY, NONE) = 1\n";
        for (String each : calls) {
            String title = "Promise " + each.substring(0, 2) + ": ";
            String call = each.substring(4).replace("#", "1");
            Runs.run(title + "it is not the last path", two, "path() = 2", call + " ! state");
            Runs.run(title + "it has a view", two, "view(1) = 0", call + " ! state");
            Runs.run(title + "another path has a view", two, "view(0) = 0",
                    call + " = " + (call.startsWith("step") ? 2 : 1));
            Runs.run(title + "it is the last path, without a view", two,
                    call + " = " + (call.startsWith("step") ? 2 : 1));
            Runs.run(title + "a hidden path is not closed", two, "hide(1) = true",
                    call + " = " + (call.startsWith("step") ? 2 : 1));
        }
    }

    /** The first line of a method's throws clause that applies decides; RICH's path 0 is not the last one. */
    private static void firstLineDecides() {
        Runs.run("Promise 24: bounds, then ranges, then the state", Runs.RICH,
                "step(5, 13, 14, 0) ! bounds; step(-1, SELF, ANY, 0) ! bounds; step(4, REPEAT, 14, NONE) ! bounds",
                "step(0, REPEAT, ANY, 0) ! bounds; step(2, REPEAT, 14, 2) ! bounds",
                "step(0, 13, ANY, NONE) ! argument; step(0, SELF, 14, NONE) ! argument",
                "step(0, SELF, ANY, 0) ! argument; step(2, REPEAT, 14, 1) ! argument",
                "step(2, REPEAT, ANY, 1) ! state; step(0, SELF, ANY, NONE) ! state",
                "4 times step(4, SELF, ANY, NONE) = 5; step(4, REPEAT, ANY, 4) ! bounds",
                "step(4, SELF, 14, NONE) ! argument");
        Runs.run("Promise 25: bounds, then ranges, then the state", Runs.RICH,
                "place(5, 3, 100) ! bounds; place(0, 3, 1) ! argument; place(0, EQUAL, 100) ! argument",
                "place(0, EQUAL, 1) ! state; last(4) = 2; place(4, 3, 1) ! argument; place(4, LESS, -1) ! argument",
                "place(4, LESS, 1) ! state; path() = 5; place(5, 3, 1) ! argument");
        Runs.run("Promise 26: bounds, then the state", Runs.RICH, "last(5) ! bounds; last(3) ! state; last(0) ! state");
        Runs.run("Promise 27: bounds, then the state", Runs.RICH,
                "has(5, 0, true) ! bounds; has(0, 0, true) ! bounds; has(3, 3, true) ! bounds",
                "has(3, 0, true) ! state; last(4) = 2; has(4, 4, true) ! bounds; has(4, 0, true) ! state; path() = 5",
                "has(5, 5, true) ! bounds");
        Runs.run("Promise 28: bounds, then ranges, then the state", Runs.RICH,
                "worth(5, 0, 3, 1000) ! bounds; worth(3, 3, 3, 1000) ! bounds; worth(3, 0, 3, 1) ! argument",
                "worth(3, 0, EQUAL, 1000) ! argument; worth(3, 0, EQUAL, 1) ! state; last(4) = 2",
                "worth(4, 4, 3, 1) ! bounds; worth(4, 0, 3, 1) ! argument; worth(4, 0, EQUAL, 1) ! state; path() = 5",
                "worth(5, 0, EQUAL, -1) ! argument");
        Runs.run("Promise 31: neither path nor node", Runs.RICH, "found(5, 11) ! bounds; foundAnew(-1, -1) ! bounds");
    }

    private static void withoutSteps() {
        Runs.run("Promise 31: without steps the node itself", Runs.SAMPLE,
                "path(); found(0, 0) = 1; found(0, 3) = 1; found(0, 4) = 1; foundAnew(0, 10) = 1; listed(0) = 0",
                "order(0) = 0; groups(0) = 1");
    }

    /** From the root, an element without children, the first and the last child, attributes and texts. */
    private static void axesFromTheEdges() {
        String[] nodes = {"0", "4", "1", "10", "9", "5", "6", "2", "7", "8", "3"};
        String[] due = {"1 1 1 1 1 1 1 1 1 1 1", "3 0 2 0 0 0 0 2 0 0 0", "0 1 1 1 1 1 1 1 1 1 1",
            "7 0 2 0 0 0 0 2 0 0 0", "8 1 3 1 1 1 1 3 1 1 1", "0 1 1 2 2 2 2 1 2 2 1", "1 2 2 3 3 3 3 2 3 3 2",
            "0 7 4 6 6 5 4 1 2 1 0", "0 0 0 0 0 0 1 3 3 4 6", "0 0 2 0 0 1 0 1 1 0 0", "0 0 0 0 0 0 1 1 0 1 2",
            "1 0 2 0 0 0 0 0 0 0 0"};
        for (int axis = 0; axis < 12; axis++) {
            StringBuilder calls = new StringBuilder(Runs.SAMPLE + "path(); step(0, " + axis + ", ANY, NONE)\n");
            for (int i = 0; i < nodes.length; i++) {
                String count = due[axis].split(" ")[i];
                calls.append("found(0, " + nodes[i] + ") = " + count + "\n");
                calls.append("foundAnew(0, " + nodes[i] + ") = " + count + "\n");
            }
            Runs.run("Promise 31: " + AXES[axis], calls.toString());
        }
        for (String axis : AXES) {
            boolean isItself = axis.endsWith("SELF");
            Runs.run("Promise 31: " + axis + " from a root alone",
                    "path(); step(0, " + axis + ", ANY, NONE); found(0, 0) = " + (isItself ? 1 : 0));
        }
    }

    private static void repeats() {
        String child = Runs.SAMPLE + "path(); step(0, CHILD, ANY, NONE); path(); step(1, REPEAT, ANY, 0)\n";
        Runs.run("Promise 31: REPEAT, and so on", child,
                "listed(1) = 1 5 6 2 7 8 3; found(1, 2) = 2; found(1, 5) = 0; found(1, 4) = 0");
        Runs.run("Promise 31: REPEAT of a path without steps", Runs.SAMPLE,
                "2 times path(); step(1, REPEAT, ANY, 0); found(1, 0) = 1; found(1, 4) = 1");
        Runs.run("Promise 31: REPEAT of a path that finds nothing", Runs.SAMPLE,
                "path(); step(0, CHILD, 7, NONE); path(); step(1, REPEAT, ANY, 0); found(1, 0) = 0; found(1, 1) = 0");
        Runs.run("Promise 31: REPEAT finds its start where it comes back to it", Runs.SAMPLE,
                "path(); step(0, PARENT, ANY, NONE); step(0, CHILD, ANY, NONE); path(); step(1, REPEAT, ANY, 0)",
                "found(1, 0) = 0; found(1, 1) = 3; found(1, 8) = 2; found(1, 10) = 2");
        Runs.run("Promise 31: REPEAT through what its own test leaves out", Runs.SAMPLE,
                "path(); step(0, CHILD, ANY, NONE); path(); step(1, REPEAT, 4, 0); listed(1) = 5; path()",
                "step(2, REPEAT, TEXTS, 0); listed(2) = 6 8 3");
        Runs.run("Promise 31: REPEAT ends in a chain of 60",
                "path(); step(0, CHILD, ANY, NONE); path(); step(1, REPEAT, ANY, 0); path()",
                "step(2, PARENT, ANY, NONE); path(); step(3, REPEAT, ANY, 2)", chain(),
                "found(1, 0) = 59; found(1, 58) = 1; found(1, 59) = 0; found(3, 59) = 59; found(3, 1) = 1",
                "found(3, 0) = 0");
    }

    private static String chain() {
        StringBuilder calls = new StringBuilder();
        for (int node = 0; node < 59; node++) {
            calls.append("insertElement(").append(node).append(", 0, 1); apply()\n");
        }
        return calls.toString();
    }

    private static void tests() {
        String names = "insertElement(0, 0, 0); insertElement(0, 1, 7) ! bounds; insertElement(0, 0, 7)\n"
                + "insertText(0, 0, 7)\n" + "insertAttribute(0, 0, 1); insertAttribute(0, 7, 2); apply() = 6\n";
        Runs.run("Promise 24: the names 0 and 7, of elements and attributes", names,
                "pathOf(CHILD, 0) = 0; listed(0) = 1; pathOf(CHILD, 7) = 1; listed(1) = 2; pathOf(ATTRIBUTES, 0) = 2",
                "listed(2) = 4; pathOf(ATTRIBUTES, 7) = 3; listed(3) = 5; pathOf(CHILD, 6) = 4; found(4, 0) = 0",
                "pathOf(SELF, 0) = 5; found(5, 0) = 1; found(5, 4) = 1; found(5, 3) = 0; found(5, 2) = 0");
        Runs.run("Promise 24: ANY and TEXTS", names,
                "pathOf(CHILD, ANY) = 0; listed(0) = 1 2 3; pathOf(CHILD, TEXTS) = 1; listed(1) = 3",
                "pathOf(ATTRIBUTES, ANY) = 2; listed(2) = 4 5; pathOf(ATTRIBUTES, TEXTS) = 3; found(3, 0) = 0",
                "pathOf(SELF, TEXTS) = 4; found(4, 0) = 0; found(4, 3) = 1; found(4, 4) = 0");
        Runs.run("Promise 24: SPACE and 0 to 3, of elements alone", names,
                "declare(1, 3); declare(2, 1); apply(); pathOf(DESCENDANT_OR_SELF, 10) = 0; listed(0) = 0",
                "pathOf(DESCENDANT_OR_SELF, 11) = 1; listed(1) = 2; pathOf(DESCENDANT_OR_SELF, 12) = 2",
                "found(2, 0) = 0; pathOf(DESCENDANT_OR_SELF, 13) = 3; listed(3) = 1; pathOf(ATTRIBUTES, 10) = 4",
                "found(4, 0) = 0; pathOf(SELF, 10) = 5; found(5, 3) = 0; found(5, 0) = 1");
    }

    private static void eachOnce() {
        Runs.run("Promise 33: each once, in the order of the document", Runs.SAMPLE,
                "pathOf(DESCENDANT, ANY) = 0; step(0, ANCESTOR_OR_SELF, ANY, NONE) = 2; listed(0) = 0 1 5 6 2 7 8 3",
                "step(0, ATTRIBUTES, ANY, NONE); listed(0) = 4 10 9; step(0, PARENT, ANY, NONE); listed(0) = 0 1",
                "found(0, 0) = 2; foundAnew(0, 0) = 2; found(0, 1) = 2; found(0, 2) = 1");
        Runs.run("Promise 31: from what is empty nothing is found", Runs.SAMPLE,
                "pathOf(CHILD, 7) = 0; step(0, DESCENDANT_OR_SELF, ANY, NONE); step(0, ANCESTOR, ANY, NONE)",
                "found(0, 0) = 0");
    }

    private static void places() {
        String[] due = {"EQUAL, 0:", "EQUAL, 1:1", "EQUAL, 2:2", "EQUAL, 3:3", "EQUAL, 4:", "EQUAL, 99:", "LESS, 0:",
            "LESS, 1:", "LESS, 2:1", "LESS, 3:1 2", "LESS, 4:1 2 3", "LESS, 99:1 2 3", "GREATER, 0:1 2 3",
            "GREATER, 1:2 3", "GREATER, 2:3", "GREATER, 3:", "GREATER, 99:"};
        for (String each : due) {
            String[] parts = each.split(":", 2);
            Runs.run("Promise 25: PLACE of three", Runs.SAMPLE, "pathOf(CHILD, ANY) = 0", "place(0, " + parts[0] + ")",
                    "listed(0) = " + parts[1]);
            Runs.run("Promise 25: PLACE of none", Runs.SAMPLE, "pathOf(CHILD, 7) = 0",
                    "place(0, " + parts[0] + "); found(0, 0) = 0");
        }
        Runs.run("Promise 25: the 59th place of 59",
                "20 times insertText(0, 0, 1); apply(); 20 times insertText(0, 20, 1); apply()",
                "19 times insertText(0, 40, 1); apply(); pathOf(CHILD, ANY) = 0; place(0, EQUAL, 59); listed(0) = 59",
                "pathOf(CHILD, ANY) = 1; place(1, EQUAL, 60); found(1, 0) = 0; pathOf(CHILD, ANY) = 2",
                "place(2, GREATER, 58); listed(2) = 59; pathOf(PRECEDING_SIBLING, ANY) = 3; place(3, EQUAL, 58)",
                "found(3, 59) = 1; found(3, 58) = 0");
        Runs.run("Promise 25: the place from each node anew", Runs.SAMPLE,
                "pathOf(DESCENDANT_OR_SELF, ANY) = 0; step(0, CHILD, ANY, NONE); place(0, EQUAL, 2)",
                "listed(0) = 6 2 8");
        Runs.run("Promise 25: the place among those that the test leaves", Runs.SAMPLE,
                "pathOf(DESCENDANT, TEXTS) = 0; place(0, EQUAL, 2); listed(0) = 8");
    }

    /** The way to the text 8, then an axis, then the first place: the nearest one where the order is the opposite. */
    private static void placesBackwards() {
        String way = Runs.SAMPLE + "path() = 0; step(0, CHILD, 2, NONE); step(0, CHILD, TEXTS, NONE); listed(0) = 8\n";
        String[] due = {"PARENT:2", "ANCESTOR:2", "ANCESTOR_OR_SELF:8", "PRECEDING:7", "PRECEDING_SIBLING:7",
            "FOLLOWING:3", "SELF:8"};
        for (String each : due) {
            Runs.run("Promise 25: the first place, " + each, way,
                    "step(0, " + each.split(":")[0] + ", ANY, NONE); place(0, EQUAL, 1)",
                    "listed(0) = " + each.split(":")[1]);
        }
        String[] far = {"ANCESTOR:0", "ANCESTOR_OR_SELF:2", "PRECEDING:6"};
        for (String each : far) {
            Runs.run("Promise 25: the second place, " + each, way,
                    "step(0, " + each.split(":")[0] + ", ANY, NONE); place(0, EQUAL, 2)",
                    "listed(0) = " + each.split(":")[1]);
        }
        Runs.run("Promise 25: the order of the document by other axes", Runs.SAMPLE,
                "pathOf(DESCENDANT, ANY) = 0; place(0, LESS, 3); listed(0) = 1 5",
                "pathOf(DESCENDANT_OR_SELF, ANY) = 1; place(1, LESS, 3); listed(1) = 0 1; pathOf(CHILD, ANY) = 2",
                "place(2, LESS, 2); listed(2) = 1; pathOf(CHILD, 1) = 3; step(3, ATTRIBUTES, ANY, NONE)",
                "place(3, EQUAL, 1); listed(3) = 10; pathOf(CHILD, 1) = 4; step(4, FOLLOWING, ANY, NONE)",
                "place(4, EQUAL, 1); listed(4) = 2; pathOf(CHILD, 1) = 5; step(5, FOLLOWING_SIBLING, ANY, NONE)",
                "place(5, EQUAL, 1); listed(5) = 2");
        Runs.run("Promise 25: by REPEAT too, also of what goes back", way,
                "pathOf(PARENT, ANY) = 1; path() = 2; step(2, CHILD, 2, NONE); step(2, CHILD, TEXTS, NONE)",
                "step(2, REPEAT, ANY, 1); place(2, EQUAL, 1); listed(2) = 0");
    }

    private static void lasts() {
        String way = Runs.SAMPLE + "path() = 0; step(0, CHILD, 2, NONE); step(0, CHILD, TEXTS, NONE); listed(0) = 8\n";
        String[] due = {"PARENT:2", "ANCESTOR:0", "ANCESTOR_OR_SELF:0", "PRECEDING:1", "PRECEDING_SIBLING:7",
            "FOLLOWING:3", "SELF:8", "FOLLOWING_SIBLING:", "CHILD:"};
        for (String each : due) {
            Runs.run("Promise 26: LAST, " + each, way, "step(0, " + each.split(":", 2)[0] + ", ANY, NONE); last(0)",
                    "listed(0) = " + each.split(":", 2)[1]);
        }
        Runs.run("Promise 26: LAST of one, of none, of many", Runs.SAMPLE,
                "pathOf(CHILD, TEXTS) = 0; last(0); listed(0) = 3; pathOf(CHILD, 7) = 1; last(1); found(1, 0) = 0",
                "pathOf(DESCENDANT, ANY) = 2; last(2); listed(2) = 3; pathOf(ATTRIBUTES, ANY) = 3; last(3)",
                "found(3, 1) = 1; found(3, 2) = 0");
    }

    private static void secondConditions() {
        Runs.run("Promise 25: the second one of those that the first one leaves", Runs.SAMPLE,
                "pathOf(CHILD, ANY) = 0; place(0, GREATER, 1); place(0, EQUAL, 1); listed(0) = 2",
                "pathOf(CHILD, ANY) = 1; place(1, GREATER, 1); place(1, EQUAL, 3); found(1, 0) = 0",
                "pathOf(CHILD, ANY) = 2; place(2, LESS, 3); last(2); listed(2) = 2; pathOf(CHILD, ANY) = 3; last(3)",
                "place(3, EQUAL, 1); listed(3) = 3; pathOf(CHILD, ANY) = 4; last(4); place(4, EQUAL, 3)",
                "found(4, 0) = 0; pathOf(CHILD, ANY) = 5; last(5); last(5); listed(5) = 3");
        Runs.run("Promise 27: a place among those that a truth leaves, and a truth of those that a place leaves",
                Runs.SAMPLE,
                "pathOf(CHILD, TEXTS) = 0; pathOf(DESCENDANT, ANY) = 1; has(1, 0, false); place(1, EQUAL, 1)",
                "listed(1) = 5; pathOf(DESCENDANT, ANY) = 2; place(2, EQUAL, 1); has(2, 0, false); found(2, 0) = 0",
                "pathOf(DESCENDANT, ANY) = 3; has(3, 0, true); last(3); listed(3) = 2");
        Runs.run("Promise 25: both in the opposite order", Runs.SAMPLE,
                "path(); step(0, CHILD, TEXTS, NONE); step(0, PRECEDING, ANY, NONE); place(0, GREATER, 2)",
                "place(0, EQUAL, 1); listed(0) = 2");
    }

    private static void truths() {
        Runs.run("Promise 27: HAS and LACKS of a path without steps", Runs.SAMPLE,
                "path() = 0; pathOf(CHILD, ANY) = 1; has(1, 0, true); found(1, 0) = 3; pathOf(CHILD, ANY) = 2",
                "has(2, 0, false); found(2, 0) = 0");
        Runs.run("Promise 27: HAS and LACKS of a path that finds nothing", Runs.SAMPLE,
                "pathOf(SELF, 7) = 0; pathOf(CHILD, ANY) = 1; has(1, 0, true); found(1, 0) = 0",
                "pathOf(CHILD, ANY) = 2; has(2, 0, false); found(2, 0) = 3");
        Runs.run("Promise 27: of one that finds some from some", Runs.SAMPLE,
                "pathOf(ATTRIBUTES, ANY) = 0; pathOf(DESCENDANT_OR_SELF, ANY) = 1; has(1, 0, true); listed(1) = 0 1",
                "pathOf(DESCENDANT_OR_SELF, ANY) = 2; has(2, 0, false); listed(2) = 5 6 2 7 8 3");
        Runs.run("Promise 27: HAS and LACKS at once leave nothing", Runs.SAMPLE,
                "pathOf(ATTRIBUTES, ANY) = 0; pathOf(DESCENDANT, ANY) = 1; has(1, 0, true); has(1, 0, false)",
                "found(1, 0) = 0");
    }

    /** Texts with the values 0, 1, 998, 999 below the root, each by itself. */
    private static void worths() {
        String texts = "insertText(0, 0, 0); insertText(0, 0, 1); insertText(0, 0, 998); insertText(0, 0, 999)\n"
                + "apply() = 5; path() = 0\n";
        String[] due = {"EQUAL, 0:1", "EQUAL, 1:2", "EQUAL, 2:", "EQUAL, 999:4", "LESS, 0:", "LESS, 1:1",
            "LESS, 2:1 2", "LESS, 999:1 2 3", "GREATER, 0:2 3 4", "GREATER, 1:3 4", "GREATER, 998:4", "GREATER, 999:"};
        for (String each : due) {
            Runs.run("Promise 28: WORTH " + each, texts, "pathOf(CHILD, ANY) = 1",
                    "worth(1, 0, " + each.split(":", 2)[0] + ")", "listed(1) = " + each.split(":", 2)[1]);
        }
        Runs.run("Promise 28: the root's own value", texts,
                "pathOf(SELF, ANY) = 1; worth(1, 0, EQUAL, 0); found(1, 0) = 1; pathOf(SELF, ANY) = 2",
                "worth(2, 0, GREATER, 0); found(2, 0) = 0; pathOf(PARENT, ANY) = 3; pathOf(CHILD, ANY) = 4",
                "worth(4, 3, LESS, 1); found(4, 0) = 4");
        Runs.run("Promise 28: some of several", texts,
                "pathOf(CHILD, ANY) = 1; pathOf(SELF, ANY) = 2; worth(2, 1, EQUAL, 999); found(2, 0) = 1",
                "pathOf(SELF, ANY) = 3; worth(3, 1, EQUAL, 2); found(3, 0) = 0; pathOf(SELF, ANY) = 4",
                "worth(4, 1, LESS, 1); worth(4, 1, GREATER, 998); found(4, 0) = 1");
    }

    private static void worthsWithoutValue() {
        String bare = "insertElement(0, 0, 1); insertElement(0, 0, 2); apply(); insertText(2, 0, 0)\n"
                + "insertAttribute(1, 0, 0); apply() = 5; path() = 0\n";
        for (String each : new String[] {"EQUAL, 0", "LESS, 1", "LESS, 999"}) {
            Runs.run("Promise 28: an element without a text has no value, " + each, bare, "pathOf(CHILD, ANY) = 1",
                    "worth(1, 0, " + each + "); listed(1) = 2");
        }
        Runs.run("Promise 28: neither less nor greater", bare,
                "pathOf(CHILD, 1) = 1; worth(1, 0, GREATER, 0); found(1, 0) = 0; pathOf(CHILD, 1) = 2",
                "worth(2, 0, LESS, 999); found(2, 0) = 0");
        Runs.run("Promise 28: a path that finds nothing", bare,
                "pathOf(CHILD, 7) = 1; pathOf(SELF, ANY) = 2; worth(2, 1, LESS, 999); found(2, 0) = 0");
        Runs.run("Promise 28: the first text alone is an element's value", bare,
                "insertText(2, 1, 9); apply(); pathOf(CHILD, 2) = 1; worth(1, 0, EQUAL, 9); found(1, 0) = 0",
                "pathOf(CHILD, 2) = 2; worth(2, 0, EQUAL, 0); found(2, 0) = 1; pathOf(ATTRIBUTES, ANY) = 3",
                "pathOf(CHILD, ANY) = 4; worth(4, 3, EQUAL, 0); listed(4) = 1");
    }

    private static void readAsReader() {
        Runs.run("Promise 30: not at first, and whether it was before",
                "readAsReader(false) = false; readAsReader(true) = false; readAsReader(true) = true",
                "readAsReader(false) = true; readAsReader(false) = false");
        Runs.run("Promise 30: from now on, or not", Runs.RICH,
                "found(2, 0) = 3; readAsReader(true) = false; found(2, 0) = 2; readAsReader(false) = true",
                "found(2, 0) = 3");
        Runs.run("Promise 30: a reader from whom nothing is hidden", Runs.SAMPLE,
                "pathOf(DESCENDANT, ANY) = 0; readAsReader(true); found(0, 0) = 7; hide(0) = true; found(0, 0) = 0",
                "hide(0) = false; found(0, 0) = 7");
    }

    private static void found() {
        Runs.refused("Promise 31: there is no such node", Runs.RICH, "found(4, #)", "bounds", Runs.NO_NODES);
        Runs.refused("Promise 32: there is no such node", Runs.RICH, "foundAnew(4, #)", "bounds", Runs.NO_NODES);
        Runs.run("Promise 31: all of 60 nodes and none",
                "insertAttribute(0, 0, 1); 19 times insertText(0, 0, 1); apply(); 20 times insertText(0, 0, 1)",
                "apply(); 19 times insertText(0, 0, 1); apply() = 60; pathOf(DESCENDANT_OR_SELF, ANY) = 0",
                "found(0, 0) = 59; foundAnew(0, 0) = 59; pathOf(CHILD, 7) = 1; found(1, 0) = 0; foundAnew(1, 0) = 0",
                "pathOf(FOLLOWING, ANY) = 2; found(2, 1) = 58; foundAnew(2, 1) = 58");
        Runs.run("Promise 32: the same", Runs.RICH,
                "found(4, 0) = 2; foundAnew(4, 0) = 2; found(3, 1) = 2; foundAnew(3, 1) = 2; foundAnew(2, 3) = 0");
    }

    /** The path 1 of RICH is hidden: it finds the elements 1 and 7. */
    private static void foundAsReader() {
        String reader = Runs.RICH + "readAsReader(true)\n";
        Runs.refused("Promise 31: a node that a reader does not see", reader, "found(0, #)", "bounds", "1", "5", "6",
                "7", "9", "10");
        Runs.refused("Promise 32: a node that a reader does not see", reader, "foundAnew(0, #)", "bounds", "1", "5",
                "6", "7", "9", "10");
        Runs.refused("Promise 31: a node that is not there for all", reader, "found(0, #)", "bounds", Runs.NO_NODES);
        Runs.run("Promise 31: nodes that a reader sees", reader,
                "found(0, 0) = 1; found(0, 2) = 1; found(0, 4) = 1; found(0, 8) = 1; found(2, 2) = 1",
                "foundAnew(3, 2) = 1");
        Runs.run("Promise 32: nodes that a reader sees", reader,
                "foundAnew(0, 0) = 1; foundAnew(0, 8) = 1; foundAnew(1, 0) = 0; foundAnew(2, 0) = 2");
        Runs.run("Promise 31: the root is seen always", Runs.SAMPLE,
                "pathOf(DESCENDANT_OR_SELF, ANY) = 0; hide(0); readAsReader(true); found(0, 0) = 1; found(0, 4) = 1",
                "found(0, 3) ! bounds");
    }

    /** What is hidden is not there, so that places, truths and ways are told without it. */
    private static void foundWithoutHidden() {
        String hidden = Runs.SAMPLE + "pathOf(CHILD, 2) = 0\n" + "hide(0) = true\n";
        Runs.run("Promise 31: places without what is hidden", hidden,
                "pathOf(CHILD, ANY) = 1; place(1, EQUAL, 2); listed(1) = 2; readAsReader(true); listed(1) = 3");
        Runs.run("Promise 31: ways round what is hidden", hidden,
                "pathOf(FOLLOWING_SIBLING, ANY) = 1; place(1, EQUAL, 1); path() = 2; step(2, REPEAT, ANY, 1)",
                "found(2, 1) = 2; readAsReader(true); found(2, 1) = 1; found(1, 1) = 1");
        Runs.run("Promise 31: truths without what is hidden", hidden,
                "pathOf(SELF, ANY) = 1; has(1, 0, true); pathOf(SELF, ANY) = 2; has(2, 0, false); found(1, 0) = 1",
                "found(2, 0) = 0; readAsReader(true); found(1, 0) = 0; found(2, 0) = 1");
        Runs.run("Promise 31: a space that one above declares is still there", hidden,
                "declare(0, 2); apply(); pathOf(DESCENDANT, 12) = 1; listed(1) = 1 5 2 7; readAsReader(true)",
                "listed(1) = 1 5");
    }

    private static void foundAt() {
        Runs.refused("Promise 33: there is no such place", Runs.RICH, "foundAt(#)", "bounds", "4, -1", "4, 2", "4, MAX",
                "4, MIN", "0, 1", "0, -1", "3, 2");
        Runs.run("Promise 33: the first and the last place", Runs.RICH,
                "foundAt(4, 0) = 1; foundAt(4, 1) = 2; foundAt(0, 0) = 0; foundAt(3, 1) = 2");
        Runs.run("Promise 33: of none", Runs.SAMPLE,
                "pathOf(CHILD, 7) = 0; foundAt(0, 0) ! bounds; foundAt(0, -1) ! bounds");
        Runs.run("Promise 33: as a reader", Runs.RICH,
                "readAsReader(true); foundAt(2, 0) = 8; foundAt(2, 1) = 3; foundAt(2, 2) ! bounds",
                "foundAt(1, 0) ! bounds; foundAt(3, 0) = 2; foundAt(3, 1) = 3; foundAt(3, 2) ! bounds");
    }

    private static void ordered() {
        Runs.refused("Promise 34: there is no such place", Runs.RICH, "ordered(#)", "bounds", "4, -1", "4, 2", "4, MAX",
                "4, MIN", "0, 1", "0, -1", "3, 2");
        Runs.run("Promise 34: of none", Runs.SAMPLE, "pathOf(CHILD, 7) = 0; ordered(0, 0) ! bounds");
        Runs.run("Promise 34: those without a value ahead, also of 0",
                "insertText(0, 0, 999); insertText(0, 0, 0); insertElement(0, 0, 1); insertText(0, 0, 1)",
                "insertElement(0, 0, 2); apply(); pathOf(CHILD, ANY) = 0; order(0) = 3 5 2 4 1",
                "listed(0) = 1 2 3 4 5");
        Runs.run("Promise 34: of the same by the order of the document",
                "4 times insertText(0, 0, 7); insertElement(0, 0, 1); apply(); insertText(5, 0, 7)",
                "insertText(0, 0, 7); apply(); pathOf(CHILD, ANY) = 0; order(0) = 7 1 2 3 4 5; setValue(3, 6)",
                "apply(); order(0) = 3 7 1 2 4 5");
        Runs.run("Promise 34: one", Runs.SAMPLE, "path(); ordered(0, 0) = 0; ordered(0, 1) ! bounds");
        Runs.run("Promise 34: as a reader", Runs.RICH, "readAsReader(true); order(2) = 8 3; ordered(2, 2) ! bounds");
    }

    private static void groups() {
        Runs.run("Promise 35: of none", Runs.SAMPLE, "pathOf(CHILD, 7) = 0; groups(0) = 0");
        Runs.run("Promise 35: having none is one",
                "path(); groups(0) = 1; insertElement(0, 0, 1); insertElement(0, 0, 1); apply()",
                "pathOf(CHILD, ANY) = 1; groups(1) = 1; insertText(0, 0, 0); apply(); groups(1) = 2",
                "insertText(0, 0, 999); apply(); groups(1) = 3; insertText(1, 0, 999); apply(); groups(1) = 3",
                "insertText(2, 0, 0); apply(); groups(1) = 2");
        Runs.run("Promise 35: all the same, all different",
                "20 times insertText(0, 0, 5); apply(); pathOf(CHILD, ANY) = 0; groups(0) = 1; setValue(1, 4)",
                "setValue(20, 6); apply(); groups(0) = 3");
        Runs.run("Promise 35: as a reader", Runs.RICH,
                "groups(2) = 2; readAsReader(true); groups(2) = 1; groups(1) = 0");
    }

    private static void valuesForReaders() {
        String two = "insertElement(0, 0, 1); apply(); insertElement(1, 0, 2); insertText(1, 0, 5); apply()\n"
                + "insertText(2, 0, 9); apply() = 5\n"
                + "path() = 0; path() = 1; step(1, DESCENDANT, 2, NONE); path() = 2; step(2, CHILD, ANY, NONE)\n"
                + "worth(2, 0, EQUAL, 9)\n" + "path() = 3; step(3, DESCENDANT_OR_SELF, ANY, NONE); hide(1) = true\n";
        Runs.run("Promise 28: by texts that are seen", two,
                "found(2, 0) = 1; readAsReader(true); found(2, 0) = 0; hide(1) = false; found(2, 0) = 1");
        Runs.run("Promise 35: by texts that are seen", two,
                "groups(3) = 2; readAsReader(true); groups(3) = 1; found(3, 0) = 3");
        Runs.run("Promise 34: by texts that are seen", two,
                "insertText(0, 0, 7); apply(); hide(1) = false; order(3) = 3 0 5 1 2 4; hide(1) = true",
                "order(3) = 3 0 5 1 2 4; readAsReader(true); order(3) = 1 3 0 5");
        Runs.run("Promise 34: all texts below are hidden", Runs.SAMPLE,
                "pathOf(DESCENDANT, TEXTS) = 0; hide(0) = true; pathOf(CHILD, ANY) = 1; readAsReader(true)",
                "order(1) = 1 2; groups(1) = 1; value(1) = 9");
    }
}
