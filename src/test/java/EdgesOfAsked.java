/** Kinds, asks, the trace, counts: "Terms" 1 and 4, promises 29 to 33. */
final class EdgesOfAsked extends Edge {
    static void all() {
        kinds();
        takenAs();
        sizes();
        marks();
        traces();
        counts();
    }

    private static void kinds() {
        terms(1, "KINDS of THINGS: 0 THING; 1 CUP, a THING; 2 CLOTH, a THING; 3 BOX, a THING; 4 SHUT, a BOX", () -> {
            TableArms x = with(CUP, 1, 0, CLOTH, 1, 1, BOX, 1, 2, LID, 1, 3, BOX, 1, 4, LID, 1, 4);
            int[][] are = {{0, 1}, {0, 2}, {0, 3}, {0, 5}, {0, 3, 4}, {0, 5}};
            for (int thing = 0; thing < 6; thing++) {
                for (int kind = 0; kind < 6; kind++) {
                    int want = KIND;
                    for (int is : are[thing]) {
                        want = is == kind ? 1 : want;
                    }
                    dueOf("as(" + thing + ", " + kind + ")", x.as(thing, kind), want);
                }
            }
        });
        terms(1, "a box on which a lid is (right above it)", () -> {
            TableArms x = with(BOX, 1, 0, LID, 1, 1, CUP, 1, 2, CLOTH, 1, 3);
            due(x.kind(0), 3);
            x.move(0, 1, 8);
            due(x.kind(0), 3);
            x.move(0, 1, 0);
            due(x.kind(0), 4);
            x.move(0, 2, 0);
            due(x.kind(0), 4);
            x.move(0, 2, 2);
            x.move(0, 1, 1);
            due(x.kind(0), 3);
            x.move(0, 2, 0);
            due(x.kind(0), 3);
            x.move(0, 1, 0);
            due(x.kind(0), 3);
            x.move(0, 1, 1);
            x.move(0, 2, 2);
            x.move(0, 0, 1);
            due(x.kind(0), 3);
            due(x.count(5), 0);
        });
        terms(1, "a box on which a lid is (right above it)", () -> {
            // Whichever numbers they have.
            for (int lid = 0; lid < 6; lid++) {
                for (int box = 0; box < 6; box++) {
                    TableArms x = new TableArms();
                    for (int k = 0; k < 6; k++) {
                        x.thing(k == box ? BOX : k == lid ? LID : CUP, 1, k);
                    }
                    x.move(0, lid, box);
                    due(x.kind(box), lid == box ? 3 : 4);
                    due(x.count(5), lid == box ? 0 : 1);
                }
            }
        });
        terms(1, "5 LID, a THING. It is told as the first that fits of SHUT, BOX, CUP, CLOTH, LID: by this it is asked.", () -> {
            TableArms x = with(CUP, 1, 0, CLOTH, 1, 1, BOX, 1, 2, LID, 1, 3, BOX, 1, 4, LID, 1, 4);
            int[] want = {1, 2, 3, 5, 4, 5};
            for (int thing = 0; thing < 6; thing++) {
                due(x.kind(thing), want[thing]);
            }
        });
        terms(1, "A SHUT box is not CLEAR.", () -> {
            TableArms x = with(BOX, 1, 0, LID, 1, 0, CUP, 1, 1);
            due(x.where(0, 5), 0);
            due(x.move(0, 0, 3), STATE);
            due(x.move(0, 2, 8), STATE);
            due(x.count(6), 2);
        });
        promise(29, "The KIND of a THING on THE TABLE, as it is told.", () -> {
            TableArms x = with(BOX, 1, 0, LID, 1, 7);
            x.keep();
            x.move(0, 1, 0);
            due(x.kind(0), 4);
            due(x.kind(1), 5);
            x.back(0);
            due(x.kind(0), 3);
            due(x.kind(1), 5);
        });
        promise(29, "BAD", () -> {
            TableArms x = new TableArms();
            due(x.kind(0), BAD);
            x.thing(CUP, 1, 0);
            for (int v : outside(0)) {
                due(x.kind(v), BAD);
            }
            due(x.kind(5), BAD);
            due(x.kind(6), BAD);
        });
    }

    private static void takenAs() {
        promise(30, "A THING is taken as one of a KIND (0 .. 5): its weight.", () -> {
            TableArms x = with(CUP, 1, 0, BOX, 20, 1);
            for (int kind = 0; kind < 6; kind++) {
                due(x.as(0, kind), kind < 2 ? 1 : KIND);
                due(x.status(), kind < 2 ? 0 : 3);
                due(x.as(1, kind), kind == 0 || kind == 3 ? 20 : KIND);
            }
            x.thing(CLOTH, 4, 5);
            x.move(0, 2, 9);
            due(x.as(1, 3), 20);
        });
        promise(30, "BAD; KIND: it is no such one (each is a THING, SHUT ones are BOXES, too).", () -> {
            TableArms x = with(CUP, 1, 0);
            for (int v : outside(0)) {
                due(x.as(v, 0), BAD);
            }
            due(x.as(5, 0), BAD);
            for (int v : outside(5)) {
                due(x.as(0, v), BAD);
            }
            due(x.status(), 0);
        });
        promise(30, "(each is a THING, SHUT ones are BOXES, too)", () -> {
            TableArms x = with(BOX, 7, 0, LID, 1, 0);
            int[] want = {7, KIND, KIND, 7, 7, KIND};
            for (int kind = 0; kind < 6; kind++) {
                due(x.as(0, kind), want[kind]);
            }
            x.move(0, 1, 1);
            due(x.as(0, 4), KIND);
            due(x.status(), 3);
            due(x.as(0, 3), 7);
            due(x.status(), 0);
            for (int sort = 0; sort < 4; sort++) {
                due(with(sort, 13, 0).as(0, 0), 13);
            }
        });
    }

    private static void sizes() {
        terms(4, "0 SIZE: 10 lent to all THINGS: weight.", () -> {
            TableArms x = with(CLOTH, 20, 0);
            due(x.ask(0, 0), 20);
            dueTrace(x, 10);
        });
        terms(4, "11 of CUPS: what 10 gives, and MARK.", () -> {
            TableArms x = with(CLOTH, 1, 0, CUP, 6, 0);
            due(x.ask(1, 0), 6 + 1 + 100);
            dueTrace(x, 11, 10, 21, 20);
            x.thing(LID, 1, 0);
            due(x.ask(1, 0), 6 + 1);
            dueTrace(x, 11, 10, 21, 20);
        });
        terms(4, "12 of BOXES: what 10 gives, and the weight of what is in it.", () -> {
            TableArms x = with(BOX, 5, 0, CUP, 9, 1);
            due(x.ask(0, 0), 5);
            dueTrace(x, 12, 10);
            x.move(0, 1, 8);
            due(x.ask(0, 0), 14);
            dueTrace(x, 12, 10);
            x.move(0, 1, 0);
            due(x.ask(0, 0), 5);
        });
        terms(4, "13 of SHUT ones: what 12 gives, twice.", () -> {
            TableArms x = with(BOX, 5, 0, CUP, 9, 1, LID, 3, 2);
            x.keep();
            x.move(0, 2, 0);
            due(x.ask(0, 0), 10);
            dueTrace(x, 13, 12, 10);
            x.back(0);
            x.move(0, 1, 8);
            x.move(0, 2, 0);
            due(x.ask(0, 0), 28);
            dueTrace(x, 13, 12, 10);
        });
        terms(4, "14 of LIDS: what 10 gives, and how many are below it in its PILE (in a BOX: 0).", () -> {
            TableArms x = with(LID, 4, 0, BOX, 1, 1, CUP, 1, 1, CUP, 1, 1, CUP, 1, 1, CUP, 1, 1);
            due(x.ask(0, 0), 4);
            x.move(0, 0, 1);
            due(x.ask(0, 0), 4 + 5);
            dueTrace(x, 14, 10);
            TableArms y = with(CLOTH, 1, 1, BOX, 1, 1, LID, 4, 0);
            y.move(0, 2, 9);
            due(y.ask(2, 0), 4);
            dueTrace(y, 14, 10);
        });
    }

    private static void marks() {
        terms(4, "1 MARK: 20 lent to all THINGS: its number.", () -> {
            TableArms x = with(BOX, 1, 0, LID, 1, 1, BOX, 1, 2);
            for (int thing = 0; thing < 3; thing++) {
                due(x.ask(thing, 1), thing);
                dueTrace(x, 20);
            }
        });
        terms(4, "21 of CUPS: what 20 gives, and 100, if it is CLEAR.", () -> {
            TableArms x = with(BOX, 1, 0, CUP, 1, 1, LID, 1, 2);
            due(x.ask(1, 1), 101);
            dueTrace(x, 21, 20);
            x.move(0, 2, 1);
            due(x.ask(1, 1), 1);
            x.move(0, 2, 2);
            x.move(0, 1, 8);
            due(x.ask(1, 1), 1);
            dueTrace(x, 21, 20);
        });
        terms(4, "22 of SHUT ones: what 20 gives, and SIZE.", () -> {
            TableArms x = with(CUP, 1, 5, BOX, 7, 0, LID, 1, 0);
            due(x.ask(1, 1), 1 + 14);
            dueTrace(x, 22, 20, 13, 12, 10);
            x.move(0, 2, 1);
            due(x.ask(1, 1), 1);
            dueTrace(x, 20);
        });
        terms(4, "23 of CLOTHS: what 20 gives, and 1000.", () -> {
            TableArms x = with(CLOTH, 1, 5, BOX, 7, 0, CLOTH, 1, 0);
            due(x.ask(0, 1), 1000);
            due(x.ask(2, 1), 1002);
            dueTrace(x, 23, 20);
        });
        terms(4, "(Of an ask the BODY told for the KIND begins, else that of the nearest KIND that it is, too, else the"
                + " one that is lent; SIZE, MARK within others are asked of the same THING anew.)", () -> {
            int[][] bodies = {{11, 21}, {10, 23}, {12, 20}, {14, 20}};
            for (int sort = 0; sort < 4; sort++) {
                for (int what = 0; what < 2; what++) {
                    TableArms x = with(sort, 1, 0);
                    x.ask(0, what);
                    due(x.trace(0), bodies[sort][what]);
                }
            }
            TableArms x = with(BOX, 1, 0, LID, 1, 0);
            x.ask(0, 0);
            due(x.trace(0), 13);
            x.ask(0, 1);
            due(x.trace(0), 22);
        });
        promise(31, "An ASK (0, 1) of a THING.", () -> {
            TableArms x = with(CUP, 2, 0, CUP, 2, 0, CUP, 2, 0, CUP, 2, 0, CUP, 2, 0, CUP, 20, 0);
            due(x.ask(5, 0), 125);
            due(x.ask(5, 1), 105);
            due(x.ask(0, 0), 2);
            due(x.ask(0, 1), 0);
        });
        promise(31, "BAD", () -> {
            TableArms x = with(CUP, 2, 0);
            for (int v : outside(0)) {
                due(x.ask(v, 0), BAD);
                due(x.ask(v, 1), BAD);
            }
            due(x.ask(5, 0), BAD);
            for (int v : outside(1)) {
                due(x.ask(0, v), BAD);
            }
            dueTrace(x);
        });
        promise(31, "THE TRACE is empty ahead of it.", () -> {
            TableArms x = with(BOX, 1, 0, LID, 1, 0, CLOTH, 1, 1);
            x.ask(0, 1);
            dueTrace(x, 22, 20, 13, 12, 10);
            x.ask(2, 0);
            dueTrace(x, 10);
            x.ask(0, 1);
            dueTrace(x, 22, 20, 13, 12, 10);
            due(x.ask(0, 2), BAD);
            due(x.ask(3, 0), BAD);
            dueTrace(x, 22, 20, 13, 12, 10);
        });
    }

    private static void traces() {
        terms(4, "ASKS of THINGS, by BODIES, each of which leaves its number in THE TRACE as it begins (the first 16)", () -> {
            TableArms x = with(BOX, 1, 0, LID, 1, 0, CUP, 1, 1);
            for (int k = 0; k < 20; k++) {
                x.ask(0, 1);
                x.ask(2, 0);
            }
            dueTrace(x, 11, 10, 21, 20);
            x.ask(0, 1);
            dueTrace(x, 22, 20, 13, 12, 10);
        });
        promise(32, "Number i of THE TRACE; NONE.", () -> {
            TableArms x = with(CUP, 1, 1);
            due(x.trace(0), NONE);
            x.ask(0, 0);
            int[] places = {MIN, -2, -1, 0, 1, 2, 3, 4, 5, 15, 16, 17, MAX};
            int[] want = {NONE, NONE, NONE, 11, 10, 21, 20, NONE, NONE, NONE, NONE, NONE, NONE};
            for (int k = 0; k < places.length; k++) {
                due(x.trace(places[k]), want[k]);
            }
        });
    }

    private static void counts() {
        promise(33, "How many: 0 SHEETS", () -> {
            TableArms x = new TableArms();
            due(x.count(0), 0);
            for (int k = 0; k < 8; k++) {
                x.sheet(k, BYTES, 0);
                due(x.count(0), k + 1);
            }
            x.sheet(0, INTS, 40);
            due(x.count(0), 8);
            x.drop(7);
            due(x.count(0), 7);
        });
        promise(33, "1 THINGS", () -> {
            TableArms x = new TableArms();
            for (int k = 0; k < 7; k++) {
                due(x.count(1), k);
                x.thing(CUP, 1, 0);
            }
            due(x.count(1), 6);
        });
        promise(33, "2 TABLES that are kept, 3 LESSONS that stand", () -> {
            TableArms x = new TableArms();
            for (int k = 0; k < 9; k++) {
                due(x.count(2), k);
                due(x.count(3), k);
                x.keep();
                x.lesson(0, 0, 0, 0);
            }
            due(x.count(2), 8);
            due(x.count(3), 8);
            x.unteach(0);
            x.unteach(7);
            x.unteach(7);
            due(x.count(3), 6);
        });
        promise(33, "4 NEVERS", () -> {
            TableArms x = new TableArms();
            for (int k = 0; k < 16; k++) {
                due(x.count(4), k);
                read(x, "most 0 0;");
            }
            due(x.count(4), 16);
            read(x, "most 0 0;");
            due(x.count(4), 16);
        });
        promise(33, "5 SHUT boxes", () -> {
            TableArms x = with(BOX, 1, 0, BOX, 1, 1, BOX, 1, 2, LID, 1, 0, LID, 1, 1, LID, 1, 7);
            due(x.count(5), 2);
            x.move(0, 5, 2);
            due(x.count(5), 3);
            x.move(0, 3, 1);
            due(x.count(5), 2);
            x.move(0, 3, 8);
            due(x.count(5), 2);
        });
        promise(33, "6 CLEAR THINGS", () -> {
            TableArms x = new TableArms();
            due(x.count(6), 0);
            for (int k = 0; k < 6; k++) {
                x.thing(k == 0 ? BOX : CUP, 1, k);
                due(x.count(6), k + 1);
            }
            x.move(0, 1, 8);
            due(x.count(6), 5);
            for (int k = 2; k < 6; k++) {
                x.move(0, k, 0);
            }
            due(x.count(6), 1);
        });
        promise(33, "7 bytes on the tape.", () -> {
            TableArms x = new TableArms();
            due(x.count(7), 0);
            for (int k = 1; k <= 37; k++) {
                x.feed(0, 8);
                due(x.count(7), 8 * k);
            }
            x.feed(0, 4);
            due(x.count(7), 300);
            x.nevers();
            due(x.count(7), 0);
        });
        promise(33, "BAD", () -> {
            TableArms x = new TableArms();
            for (int v : outside(7)) {
                due(x.count(v), BAD);
            }
        });
    }
}
