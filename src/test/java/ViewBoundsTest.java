/** Promises 45 to 49: each sentence of the document that names a bound of the indexes, plans and views. */
public final class ViewBoundsTest {
    public static void main(String[] args) {
        index();
        plan();
        planByIndex();
        planByFewer();
        planByStream();
        planByConditions();
        planForReaders();
        view();
        viewed();
        viewedIsKept();
        changed();
        changedByVersions();
        changedForReaders();
        Due.end();
    }

    private static void index() {
        Runs.refused("Promise 45: name is out of range", Runs.RICH, "index(#)", "argument", "-1", "8", "63", "64",
                "MAX", "MIN");
        Runs.run("Promise 45: names 0 to 7, made or dropped",
                "index(0) = true; index(7) = true; index(3) = true; index(0) = false; index(7) = false",
                "index(0) = true; index(3) = false; index(1) = true; index(2) = true; index(4) = true",
                "index(5) = true; index(6) = true; index(7) = true; index(7) = false");
    }

    private static void plan() {
        Runs.refused("Promise 46: there is no such path", Runs.RICH, "plan(#)", "bounds", "-1", "5", "20", "MAX",
                "MIN");
        Runs.run("Promise 46: a path without steps, of a root alone and of 60 nodes",
                "path(); plan(0) = 2001; 20 times insertText(0, 0, 1); apply(); 20 times insertText(0, 0, 1)",
                "apply(); 19 times insertText(0, 0, 1); apply(); plan(0) = 2060");
        Runs.run("Promise 46: attributes are not looked at, gone nodes neither", Runs.SAMPLE,
                "path(); plan(0) = 2008; remove(1); remove(4); apply(); plan(0) = 2005");
        Runs.run("Promise 46: the 20th path", Runs.SAMPLE,
                "20 times path(); step(19, PARENT, ANY, NONE); plan(19) = 8; plan(18) = 2008");
    }

    private static void planByIndex() {
        for (int name = 0; name < 8; name++) {
            String other = "index(" + (name + 1) % 8 + ")\n";
            Runs.run("Promise 46: DESCENDANT with a name of which there is an index",
                    "insertElement(0, 0, " + name + "); insertText(0, 0, 1); apply()",
                    "pathOf(DESCENDANT, " + name + ") = 0",
                    other, "plan(0) = 2003; index(" + name + "); plan(0) = " + (name == 0 ? 1002 : 1001),
                    "index(" + name + "); plan(0) = 2003");
        }
        String all = "index(0); index(1); index(2); index(3); index(4); index(5); index(6); index(7)\n";
        Runs.run("Promise 46: other tests and axes", Runs.SAMPLE, all,
                "pathOf(DESCENDANT, ANY) = 0; plan(0) = 2008; pathOf(DESCENDANT, TEXTS) = 1; plan(1) = 2008",
                "pathOf(DESCENDANT, 10) = 2; plan(2) = 2008; pathOf(DESCENDANT_OR_SELF, 1) = 3; plan(3) = 2008",
                "pathOf(CHILD, 1) = 4; plan(4) = 2008; pathOf(ATTRIBUTES, 3) = 5; plan(5) = 2008",
                "pathOf(FOLLOWING, 1) = 6; plan(6) = 8; pathOf(DESCENDANT, 13) = 7; plan(7) = 2008");
        Runs.run("Promise 46: the first step, not the others", Runs.SAMPLE, all,
                "pathOf(CHILD, ANY) = 0; step(0, DESCENDANT, 1, NONE); plan(0) = 2008; pathOf(DESCENDANT, 1) = 1",
                "step(1, PARENT, ANY, NONE); plan(1) = 1002; place(1, GREATER, 0); plan(1) = 1002",
                "pathOf(DESCENDANT, 1) = 2; last(2); plan(2) = 1002");
    }

    private static void planByFewer() {
        Runs.run("Promise 46: fewer elements with that name than elements and texts",
                "pathOf(DESCENDANT, 0) = 0; index(0); plan(0) = 2001; insertElement(0, 0, 0); apply()",
                "plan(0) = 2002; insertAttribute(0, 1, 1); apply(); plan(0) = 2002; insertText(0, 0, 1); apply()",
                "plan(0) = 1002; remove(3); apply(); plan(0) = 2002; rename(1, 7); apply(); plan(0) = 1001",
                "rename(0, 7); apply(); plan(0) = 1000");
        Runs.run("Promise 46: not fewer, and not streamed",
                "pathOf(DESCENDANT, 0) = 0; last(0); index(0); plan(0) = 1; insertText(0, 0, 1); apply()",
                "plan(0) = 1001");
        Runs.run("Promise 46: no element with that name", Runs.SAMPLE,
                "index(3); index(7); pathOf(DESCENDANT, 3) = 0; plan(0) = 1000; pathOf(DESCENDANT, 7) = 1",
                "plan(1) = 1000");
        Runs.run("Promise 46: all of 59 elements but not the root",
                "20 times insertElement(0, 0, 1); apply(); 20 times insertElement(0, 0, 1); apply()",
                "19 times insertElement(0, 0, 1); apply(); index(1); pathOf(DESCENDANT, 1) = 0; plan(0) = 1059",
                "rename(0, 1); apply(); plan(0) = 2060");
    }

    private static void planByStream() {
        String[] ways = {"SELF 2008", "CHILD 2008", "PARENT 8", "DESCENDANT 2008", "DESCENDANT_OR_SELF 2008",
            "ANCESTOR 8", "ANCESTOR_OR_SELF 8", "FOLLOWING 8", "PRECEDING 8", "FOLLOWING_SIBLING 8",
            "PRECEDING_SIBLING 8", "ATTRIBUTES 2008"};
        for (String each : ways) {
            String axis = each.split(" ")[0];
            Runs.run("Promise 46: by its axes, " + axis, Runs.SAMPLE,
                    "pathOf(" + axis + ", ANY) = 0\n" + "plan(0) = " + each.split(" ")[1],
                    "pathOf(CHILD, ANY) = 1; step(1, CHILD, ANY, NONE); step(1, CHILD, ANY, NONE)",
                    "step(1, CHILD, ANY, NONE); plan(1) = 2008",
                    "step(1, " + axis + ", ANY, NONE) = 5; plan(1) = " + each.split(" ")[1]);
        }
        Runs.run("Promise 46: REPEAT is not streamed", Runs.SAMPLE,
                "pathOf(SELF, ANY) = 0; path(); step(1, REPEAT, ANY, 0); plan(1) = 8");
    }

    private static void planByConditions() {
        Runs.run("Promise 46: PLACE that is not greater", Runs.SAMPLE,
                "pathOf(CHILD, ANY) = 0; place(0, EQUAL, 0); plan(0) = 2008; place(0, LESS, 99); plan(0) = 2008",
                "pathOf(CHILD, ANY) = 1; place(1, GREATER, 0); plan(1) = 8; pathOf(CHILD, ANY) = 2",
                "place(2, EQUAL, 1); place(2, GREATER, 99); plan(2) = 8; pathOf(CHILD, ANY) = 3",
                "place(3, GREATER, 1); step(3, CHILD, ANY, NONE); plan(3) = 8");
        Runs.run("Promise 46: LAST is none of these", Runs.SAMPLE, "pathOf(CHILD, ANY) = 0; last(0); plan(0) = 8");
        String lower = """
                path() = 0
                pathOf(SELF, ANY) = 1; step(1, ATTRIBUTES, ANY, NONE)
                pathOf(SELF, ANY) = 2; last(2)
                pathOf(ATTRIBUTES, ANY) = 3; step(3, CHILD, ANY, NONE)
                pathOf(ATTRIBUTES, ANY) = 4
                path() = 5; step(5, REPEAT, ANY, 4)
                pathOf(SELF, ANY) = 6; has(6, 0, true)
                """;
        int[] due = {2008, 2008, 8, 8, 2008, 8, 8};
        String[] conditions = {"has(7, #, true)", "has(7, #, false)", "worth(7, #, LESS, 999)"};
        for (int other = 0; other < due.length; other++) {
            for (String each : conditions) {
                Runs.run("Promise 46: a path whose steps are SELF or ATTRIBUTES without conditions", Runs.SAMPLE, lower,
                        "pathOf(CHILD, ANY) = 7", each.replace("#", "" + other) + "; plan(7) = " + due[other]);
            }
        }
        String[] others = {"CHILD", "PARENT", "DESCENDANT", "DESCENDANT_OR_SELF", "ANCESTOR", "ANCESTOR_OR_SELF",
            "FOLLOWING", "PRECEDING", "FOLLOWING_SIBLING", "PRECEDING_SIBLING"};
        for (String axis : others) {
            Runs.run("Promise 46: a path of another step, " + axis, Runs.SAMPLE, "pathOf(" + axis + ", ANY) = 0",
                    "pathOf(CHILD, ANY) = 1; has(1, 0, true); plan(1) = 8");
        }
    }

    private static void planForReaders() {
        Runs.run("Promise 46: a reader's plan is by all nodes", Runs.RICH,
                "plan(1) = 1002; plan(2) = 2008; readAsReader(true); plan(1) = 1002; plan(2) = 2008");
    }

    private static void view() {
        Runs.refused("Promise 47: there is no such path", Runs.RICH, "view(#)", "bounds", "-1", "5", "20", "MAX",
                "MIN");
        Runs.run("Promise 47: there are 5", Runs.RICH,
                "view(0) = 2; view(0) = 3; view(4) = 4; view(4) ! state; view(0) ! state; view(5) ! bounds",
                "view(-1) ! bounds");
        Runs.run("Promise 47: of the 20th path, and of one without steps",
                "20 times path(); view(19) = 0; view(0) = 1; viewedNodes(0) = 0; viewedNodes(1) = 0");
    }

    private static void viewed() {
        Runs.refused("Promise 48: there is no such view", Runs.RICH, "viewed(#, 0)", "bounds", "-1", "2", "4", "5",
                "MAX", "MIN");
        Runs.refused("Promise 48: place is below 0", Runs.RICH, "viewed(0, #)", "bounds", "-1", "MIN");
        Runs.refused("Promise 48: neither view nor place", Runs.RICH, "viewed(#, -1)", "bounds", "2", "-1");
        Runs.run("Promise 48: the first, the last, and NONE if it has not so many", Runs.RICH,
                "viewed(0, 0) = 6; viewed(0, 2) = 3; viewed(0, 3) = NONE; viewed(0, 60) = NONE; viewed(0, 64) = NONE",
                "viewed(0, MAX) = NONE; viewed(1, 1) = 2; viewed(1, 2) = NONE");
        Runs.run("Promise 48: of what finds nothing", "pathOf(CHILD, ANY) = 0; view(0) = 0; viewed(0, 0) = NONE");
        Runs.run("Promise 48: 59 nodes", "pathOf(CHILD, ANY) = 0; view(0); 20 times insertText(0, 0, 1); apply()",
                "20 times insertText(0, 20, 1); apply(); 19 times insertText(0, 40, 1); apply(); viewed(0, 58) = 59",
                "viewed(0, 59) = NONE; changed(0) = 19");
    }

    private static void viewedIsKept() {
        Runs.run("Promise 48: what is done, not what is in the list", Runs.RICH,
                "viewedNodes(0) = 6 8 3; apply(); viewedNodes(0) = 12 6 8 3");
        Runs.run("Promise 48: a version that is taken", Runs.SAMPLE,
                "pathOf(DESCENDANT, TEXTS) = 0; view(0); keep(); remove(1); apply(); viewedNodes(0) = 8 3; take(0)",
                "viewedNodes(0) = 6 8 3");
        Runs.run("Promise 48: for a reader all", Runs.RICH,
                "readAsReader(true); viewedNodes(0) = 6 8 3; viewedNodes(1) = 1 2");
    }

    private static void changed() {
        Runs.refused("Promise 49: there is no such view", Runs.RICH, "changed(#)", "bounds", "-1", "2", "4", "5", "MAX",
                "MIN");
        String texts = Runs.SAMPLE + "pathOf(DESCENDANT, TEXTS) = 0\n" + "pathOf(CHILD, 1) = 1";
        Runs.run("Promise 49: 0 if none were done since it was made", texts,
                "remove(3); apply(); view(0) = 0; changed(0) = 0; insertText(0, 0, 1); changed(0) = 0; apply()",
                "changed(0) = 1; view(0) = 1; changed(1) = 0; changed(0) = 1");
        Runs.run("Promise 49: came and went, together", texts,
                "view(0); view(1); remove(3); insertText(0, 0, 1); insertText(0, 0, 2); rename(1, 5); rename(2, 1)",
                "apply(); changed(0) = 3; changed(1) = 2");
        Runs.run("Promise 49: by the updates that were done last", texts,
                "view(0); remove(3); remove(6); apply(); changed(0) = 2; insertText(0, 0, 1); apply()",
                "changed(0) = 1; setValue(8, 1); apply(); changed(0) = 0");
        Runs.run("Promise 49: what moves or changes within is none", texts,
                "view(0); move(3, 0, 0); setValue(6, 1); move(8, 1, 0); apply(); changed(0) = 0",
                "viewedNodes(0) = 3 8 6");
        Runs.run("Promise 49: a list that is refused or forgotten", texts,
                "view(0); remove(3); apply(); changed(0) = 1; insertText(0, 0, 1); 2 times rename(0, 1)",
                "apply() ! state; changed(0) = 1; forget(); changed(0) = 1");
        Runs.run("Promise 49: the root goes and comes",
                "pathOf(SELF, 0) = 0; view(0); rename(0, 1); apply(); changed(0) = 1; viewed(0, 0) = NONE",
                "rename(0, 0); apply(); changed(0) = 1; viewed(0, 0) = 0; apply(); changed(0) = 0");
        Runs.run("Promise 49: 59 at once, and none left",
                "pathOf(CHILD, ANY) = 0; view(0); insertElement(0, 0, 1); apply(); 19 times insertText(1, 0, 1)",
                "apply(); pathOf(DESCENDANT, ANY) = 1; view(1); remove(1); apply() = 1; changed(1) = 20",
                "changed(0) = 1; viewed(1, 0) = NONE");
    }

    private static void changedByVersions() {
        Runs.run("Promise 49: by taking a version since", Runs.SAMPLE,
                "pathOf(DESCENDANT, TEXTS) = 0; view(0); keep(); remove(2); remove(3); apply(); changed(0) = 2",
                "insertText(0, 0, 1); apply(); changed(0) = 1; take(0); changed(0) = 3; take(0); changed(0) = 0",
                "view(0) = 1; changed(1) = 0");
        Runs.run("Promise 49: a version that is not taken", Runs.SAMPLE,
                "pathOf(DESCENDANT, TEXTS) = 0; view(0); keep(); remove(3); apply(); changed(0) = 1; keep()",
                "changed(0) = 1; take(2) ! bounds; insertText(0, 0, 1); take(0) ! state; changed(0) = 1");
    }

    private static void changedForReaders() {
        Runs.run("Promise 49: by all nodes", Runs.RICH,
                "readAsReader(true); insertText(1, 0, 1); apply(); changed(0) = 2; hide(2); changed(0) = 2",
                "viewedNodes(0) = 13 12 6 8 3");
    }
}
