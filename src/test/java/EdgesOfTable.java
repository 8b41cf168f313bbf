/** Things on cells and in boxes: "Terms" 1, promises 6 to 13. */
final class EdgesOfTable extends Edge {
    static void all() {
        cells();
        thingsAndTables();
        movesToCells();
        movesIntoBoxes();
        reaches();
        newThings();
        whereabouts();
        piles();
        reachCalls();
        moveRefusals();
        keptTables();
        sameTables();
    }

    private static void cells() {
        terms(1, "CELLS 0 .. 7: x + 4 y (x 0 to 3, y 0 or 1)", () -> {
            for (int cell = 0; cell < 8; cell++) {
                TableArms x = new TableArms();
                due(x.thing(CUP, 1, cell), 0);
                due(x.where(0, 2), cell);
                due(x.pile(cell, 0), 0);
                due(x.move(0, 0, 7 - cell), 1);
                due(x.where(0, 2), 7 - cell);
            }
            TableArms x = with(CUP, 1, 0);
            for (int cell : outside(7)) {
                due(x.thing(CUP, 1, cell), BAD);
                due(x.pile(cell, 0), BAD);
                due(x.pile(cell, -1), BAD);
                due(x.move(0, 0, cell), BAD);
                due(x.let(0, 0, cell), BAD);
            }
        });
        terms(1, "NEIGHBOURS of a CELL are one aside, or one up or down.", () -> {
            TableArms x = new TableArms();
            x.sheet(0, BYTES, 3);
            for (int a = 0; a < 8; a++) {
                for (int b = 0; b < 8; b++) {
                    int other = a != 0 && b != 0 ? 0 : a != 7 && b != 7 ? 7 : 3;
                    x.set(0, 0, a);
                    x.set(0, 1, b);
                    x.set(0, 2, other);
                    dueOf("ways of " + a + " " + b, x.ways(0, 0, 2, 1), a == b || neighbours(a, b) ? 1 : BAD);
                }
            }
        });
        terms(1, "NEIGHBOURS of a CELL are one aside", () -> {
            TableArms x = new TableArms();
            int[][] none = {{3, 4}, {4, 3}, {0, 3}, {4, 7}, {0, 5}, {2, 7}, {0, 7}, {3, 2}, {1, 4}, {6, 3}};
            int[] want = {BAD, BAD, BAD, BAD, BAD, BAD, BAD, 1, BAD, BAD};
            for (int k = 0; k < none.length; k++) {
                fill(x, 0, INTS, none[k][0], none[k][1], none[k][0] == 6 || none[k][1] == 6 ? 0 : 6);
                due(x.ways(0, 0, 2, 1), want[k]);
            }
        });
        terms(1, "one up or down", () -> {
            for (int a = 0; a < 8; a++) {
                for (int b = 0; b < 8; b++) {
                    TableArms x = with(CUP, 1, a, CLOTH, 1, b);
                    int there = x.plan(orderOf(ONE, CUP, BESIDE, CLOTH), 0);
                    dueOf("cup on " + a + " beside cloth on " + b, there == 0 ? 1 : 0, neighbours(a, b) ? 1 : 0);
                }
            }
        });
    }

    private static void thingsAndTables() {
        terms(1, "THINGS 0 .. 5 (6 at most), as they are told", () -> {
            TableArms x = new TableArms();
            for (int k = 0; k < 6; k++) {
                due(x.count(1), k);
                due(x.where(k, 0), BAD);
                due(x.kind(k), BAD);
                due(x.thing(k % 4, k + 1, k), k);
                due(x.where(k, 0), k % 4);
                due(x.where(k, 1), k + 1);
            }
            due(x.thing(CUP, 1, 0), FULL);
            due(x.count(1), 6);
            due(x.where(6, 0), BAD);
        });
        terms(1, "a SORT (0 cup, 1 cloth, 2 box, 3 lid)", () -> {
            int[] kinds = {1, 2, 3, 5};
            for (int sort = 0; sort < 4; sort++) {
                TableArms x = new TableArms();
                due(x.thing(sort, 1, 0), 0);
                due(x.where(0, 0), sort);
                due(x.kind(0), kinds[sort]);
            }
            for (int sort : outside(3)) {
                due(new TableArms().thing(sort, 1, 0), BAD);
            }
        });
        terms(1, "a weight (1 to 20)", () -> {
            TableArms x = new TableArms();
            due(x.thing(CUP, 1, 0), 0);
            due(x.thing(CUP, 20, 0), 1);
            due(x.where(0, 1), 1);
            due(x.where(1, 1), 20);
            for (int weight : new int[] {MIN, -1, 0, 21, MAX}) {
                due(x.thing(CUP, weight, 0), BAD);
            }
            due(x.count(1), 2);
        });
        terms(1, "A TABLE tells where each THING is: on a CELL (in its PILE, from below to above)", () -> {
            TableArms x = new TableArms();
            for (int k = 0; k < 6; k++) {
                x.thing(k % 4, 1, 6);
            }
            due(x.pile(6, -1), 6);
            for (int k = 0; k < 6; k++) {
                due(x.pile(6, k), k);
                dueOn(x, k, 6, k);
            }
        });
        terms(1, "or in a BOX (one THING at most in each; no box, nothing that has something in it)", () -> {
            TableArms x = with(BOX, 1, 0, BOX, 1, 1, CUP, 1, 2, CUP, 1, 3, LID, 1, 4);
            due(x.move(0, 2, 8), 1);
            due(x.move(0, 3, 8), STATE);
            due(x.move(0, 1, 8), STATE);
            due(x.move(0, 2, 5), 1);
            due(x.move(0, 1, 8), STATE);
            due(x.move(0, 3, 9), 1);
            due(x.move(0, 1, 8), STATE);
            due(x.move(0, 4, 8), 1);
            dueIn(x, 4, 0);
            dueIn(x, 3, 1);
        });
        terms(1, "A THING is CLEAR, if it is on a CELL and nothing is above it in its PILE.", () -> {
            TableArms x = with(CUP, 1, 0, CLOTH, 1, 0, BOX, 1, 0, LID, 1, 7);
            int[] clear = {0, 0, 1, 1};
            for (int k = 0; k < 4; k++) {
                due(x.where(k, 5), clear[k]);
            }
            due(x.count(6), 2);
            x.move(0, 3, 10);
            due(x.where(3, 5), 0);
            due(x.where(2, 5), 1);
            due(x.count(6), 1);
            x.move(0, 2, 5);
            due(x.where(1, 5), 1);
            due(x.where(3, 5), 0);
            due(x.count(6), 2);
            x.move(0, 1, 5);
            due(x.where(2, 5), 0);
            due(x.where(0, 5), 1);
        });
        terms(1, "THE TABLE: what is told now.", () -> {
            TableArms x = with(CUP, 1, 0);
            x.keep();
            x.move(0, 0, 3);
            due(x.where(0, 2), 3);
            due(x.pile(0, -1), 0);
        });
    }

    private static void movesToCells() {
        terms(1, "A MOVE of a THING to a CELL: it must be CLEAR, or in a BOX that is CLEAR", () -> {
            TableArms x = with(CUP, 1, 0, CLOTH, 1, 0, BOX, 1, 1, LID, 1, 7);
            due(x.move(0, 0, 5), STATE);
            due(x.move(0, 0, 0), STATE);
            due(x.move(0, 1, 5), 1);
            due(x.move(0, 0, 10), 1);
            due(x.move(0, 3, 1), 1);
            due(x.move(0, 0, 6), STATE);
            due(x.move(0, 0, 1), STATE);
            due(x.move(0, 3, 7), 1);
            due(x.move(0, 0, 6), 1);
            dueOn(x, 0, 6, 0);
        });
        terms(1, "it comes to the top of the PILE there", () -> {
            TableArms x = with(CUP, 1, 0, CLOTH, 1, 5, LID, 1, 5, CUP, 1, 1);
            due(x.move(0, 0, 5), 1);
            due(x.move(1, 3, 5), 1);
            int[] pile = {1, 2, 0, 3};
            for (int k = 0; k < 4; k++) {
                due(x.pile(5, k), pile[k]);
            }
            due(x.pile(5, -1), 4);
            due(x.pile(0, -1), 0);
        });
        terms(1, "it may be the CELL on which it is (nothing changes then).", () -> {
            TableArms x = with(CUP, 1, 0, CLOTH, 1, 0, BOX, 1, 3, LID, 1, 4);
            x.move(0, 3, 10);
            x.keep();
            due(x.move(0, 1, 0), 1);
            due(x.same(0, NONE), 1);
            due(x.move(1, 2, 3), 1);
            due(x.same(0, NONE), 1);
            dueIn(x, 3, 2);
            due(x.pile(0, -1), 2);
            due(x.pile(3, -1), 1);
        });
        terms(1, "it comes to the top of the PILE there", () -> {
            TableArms x = with(CLOTH, 1, 3, BOX, 1, 3, CUP, 1, 4);
            x.move(0, 2, 9);
            due(x.move(0, 2, 3), 1);
            dueOn(x, 2, 3, 2);
            due(x.where(1, 6), NONE);
            due(x.where(1, 5), 0);
        });
        terms(1, "Where a box goes, what is in it goes along.", () -> {
            TableArms x = with(BOX, 1, 0, CUP, 1, 1, CLOTH, 1, 6);
            x.move(0, 1, 8);
            for (int to : new int[] {7, 6, 6, 0}) {
                due(x.move(0, 0, to), 1);
                due(x.where(1, 2), to);
                dueIn(x, 1, 0);
            }
            due(x.move(0, 1, 3), 1);
            due(x.move(0, 0, 5), 1);
            dueOn(x, 1, 3, 0);
        });
    }

    private static void movesIntoBoxes() {
        String all = "INTO a BOX: the THING must be CLEAR (or in another BOX that is CLEAR) and no box, the BOX CLEAR"
                + " and empty, another one.";
        terms(1, all, () -> {
            for (int sort = 0; sort < 4; sort++) {
                TableArms x = with(BOX, 1, 0, sort, 1, 1);
                due(x.move(0, 1, 8), sort == BOX ? STATE : 1);
                due(x.where(0, 6), sort == BOX ? NONE : 1);
            }
        });
        terms(1, "the THING must be CLEAR (or in another BOX that is CLEAR)", () -> {
            TableArms x = with(BOX, 1, 0, CUP, 1, 1, CLOTH, 1, 1, BOX, 1, 5, LID, 1, 7);
            due(x.move(0, 1, 8), STATE);
            due(x.move(0, 2, 8), 1);
            due(x.move(0, 2, 11), 1);
            dueIn(x, 2, 3);
            due(x.where(0, 6), NONE);
            due(x.move(0, 4, 5), 1);
            due(x.move(0, 2, 8), STATE);
            due(x.move(0, 4, 7), 1);
            due(x.move(0, 2, 8), 1);
            dueIn(x, 2, 0);
            due(x.where(3, 6), NONE);
        });
        terms(1, "and no box", () -> {
            TableArms x = with(BOX, 1, 0, BOX, 1, 1, CUP, 1, 2);
            due(x.move(0, 0, 9), STATE);
            due(x.move(0, 1, 8), STATE);
            x.move(0, 2, 9);
            due(x.move(0, 1, 8), STATE);
        });
        terms(1, "the BOX CLEAR", () -> {
            TableArms x = with(BOX, 1, 0, CUP, 1, 0, LID, 1, 1);
            due(x.move(0, 2, 8), STATE);
            due(x.move(0, 1, 8), STATE);
            due(x.move(0, 1, 5), 1);
            due(x.move(0, 1, 8), 1);
        });
        terms(1, "and empty, another one", () -> {
            TableArms x = with(BOX, 1, 0, CUP, 1, 1, LID, 1, 2);
            due(x.move(0, 0, 8), STATE);
            due(x.move(0, 1, 8), 1);
            due(x.move(0, 1, 8), STATE);
            due(x.move(0, 2, 8), STATE);
            due(x.move(0, 0, 8), STATE);
            dueIn(x, 1, 0);
        });
    }

    private static int moveWith(int arm, int set, int from, int to) {
        TableArms x = with(CUP, 1, from);
        x.reach(arm, set);
        x.reach(1 - arm, 255 - set);
        return x.move(arm, 0, to);
    }

    /** Thing 0 is in box 1 on cell 2, box 2 is on cell 5. */
    private static TableArms boxed(int arm, int set) {
        TableArms x = with(CUP, 1, 0, BOX, 1, 2, BOX, 1, 5);
        x.move(0, 0, 9);
        x.reach(arm, set);
        x.reach(1 - arm, 0);
        return x;
    }

    private static void reaches() {
        terms(1, "An ARM (0, 1) REACHES a set of CELLS (all at first)", () -> {
            for (int arm = 0; arm < 2; arm++) {
                TableArms x = with(CUP, 1, 0);
                for (int to : new int[] {1, 2, 3, 4, 5, 6, 7, 0}) {
                    due(x.move(arm, 0, to), 1);
                }
                due(x.reach(arm, 255), 255);
            }
            TableArms x = with(CUP, 1, 0);
            for (int arm : outside(1)) {
                due(x.move(arm, 0, 1), BAD);
                due(x.let(arm, 0, 1), BAD);
                due(x.reach(arm, 255), BAD);
            }
        });
        terms(1, "it does a MOVE, if it REACHES the CELL from where", () -> {
            for (int from = 0; from < 8; from++) {
                for (int to = 0; to < 8; to++) {
                    due(moveWith(0, 1 << from | 1 << to, from, to), 1);
                    due(moveWith(1, 1 << from | 1 << to, from, to), 1);
                    due(moveWith(0, 255 - (1 << from), from, to), STATE);
                    due(moveWith(1, 255 - (1 << from), from, to), STATE);
                }
            }
        });
        terms(1, "and the CELL to where (the BOX's)", () -> {
            for (int from = 0; from < 8; from++) {
                for (int to = 0; to < 8; to++) {
                    due(moveWith(0, 255 - (1 << to), from, to), STATE);
                    due(moveWith(1, 255 - (1 << to), from, to), STATE);
                }
            }
            due(boxed(0, 1 << 2 | 1 << 5).move(0, 0, 10), 1);
            due(boxed(0, 255 - (1 << 5)).move(0, 0, 10), STATE);
            due(boxed(1, 255 - (1 << 2)).move(1, 0, 10), STATE);
            due(boxed(1, 1 << 2 | 1 << 5).move(1, 0, 10), 1);
        });
        terms(1, "(of a THING in a BOX the BOX's)", () -> {
            due(boxed(0, 1 << 2 | 1 << 6).move(0, 0, 6), 1);
            due(boxed(0, 255 - (1 << 2)).move(0, 0, 6), STATE);
            due(boxed(0, 1 << 2).move(0, 0, 2), 1);
            due(boxed(0, 255 - 1).move(0, 0, 6), 1);
        });
    }

    private static void newThings() {
        promise(6, "A THING comes to the top of the PILE on a CELL, of all TABLES that are kept, too: its number.", () -> {
            TableArms x = with(CUP, 1, 0);
            for (int k = 0; k < 8; k++) {
                x.move(0, 0, k);
                x.keep();
            }
            due(x.thing(CLOTH, 2, 3), 1);
            due(x.thing(LID, 3, 3), 2);
            dueOn(x, 1, 3, 0);
            dueOn(x, 2, 3, 1);
            for (int k = 0; k < 8; k++) {
                due(x.back(k), 1);
                dueOn(x, 0, k, 0);
                dueOn(x, 1, 3, k == 3 ? 1 : 0);
                dueOn(x, 2, 3, k == 3 ? 2 : 1);
            }
        });
        promise(6, "of all TABLES that are kept, too", () -> {
            TableArms x = new TableArms();
            x.keep();
            due(x.thing(BOX, 1, 5), 0);
            x.keep();
            due(x.same(0, 1), 1);
            due(x.same(0, NONE), 1);
            x.move(0, 0, 2);
            due(x.back(0), 1);
            dueOn(x, 0, 5, 0);
        });
        promise(6, "comes to the top of the PILE on a CELL", () -> {
            TableArms x = with(BOX, 1, 0, CUP, 1, 1);
            x.move(0, 1, 8);
            due(x.thing(LID, 1, 0), 2);
            dueIn(x, 1, 0);
            due(x.kind(0), 4);
            due(x.where(0, 5), 0);
        });
        promise(6, "BAD; FULL: 6.", () -> {
            TableArms x = new TableArms();
            for (int v : outside(3)) {
                due(x.thing(v, 1, 0), BAD);
            }
            for (int v : new int[] {MIN, 0, 21, MAX}) {
                due(x.thing(0, v, 0), BAD);
            }
            for (int v : outside(7)) {
                due(x.thing(0, 1, v), BAD);
            }
            due(x.count(1), 0);
            due(x.thing(0, 1, 0), 0);
        });
        promise(6, "FULL: 6", () -> {
            TableArms x = new TableArms();
            for (int k = 0; k < 6; k++) {
                due(x.thing(3, 20, 7), k);
            }
            due(x.thing(0, 1, 0), FULL);
            due(x.count(1), 6);
            due(x.pile(0, -1), 0);
            due(x.pile(7, -1), 6);
        });
    }

    private static void whereabouts() {
        TableArms x = with(CUP, 3, 6, BOX, 9, 6, LID, 20, 1);
        promise(7, "Of a THING on THE TABLE: 0 SORT, 1 weight", () -> {
            int[] sorts = {CUP, BOX, LID};
            int[] weights = {3, 9, 20};
            for (int k = 0; k < 3; k++) {
                due(x.where(k, 0), sorts[k]);
                due(x.where(k, 1), weights[k]);
            }
        });
        promise(7, "2 its CELL (of one in a BOX the BOX's)", () -> {
            due(x.where(0, 2), 6);
            due(x.where(1, 2), 6);
            due(x.where(2, 2), 1);
            TableArms y = with(CUP, 3, 6, BOX, 9, 2);
            y.move(0, 0, 9);
            due(y.where(0, 2), 2);
        });
        promise(7, "3 how many are below it in its PILE (in a BOX: NONE)", () -> {
            due(x.where(0, 3), 0);
            due(x.where(1, 3), 1);
            due(x.where(2, 3), 0);
            TableArms y = with(CLOTH, 1, 2, BOX, 9, 2, CUP, 3, 6);
            due(y.where(2, 3), 0);
            y.move(0, 2, 9);
            due(y.where(2, 3), NONE);
            due(y.where(1, 3), 1);
        });
        promise(7, "4 the BOX in which it is (NONE)", () -> {
            TableArms y = with(CUP, 3, 6, BOX, 9, 6, BOX, 1, 0);
            due(y.where(0, 4), NONE);
            due(y.where(1, 4), NONE);
            y.move(0, 1, 3);
            y.move(0, 0, 10);
            due(y.where(0, 4), 2);
            y.move(0, 0, 9);
            due(y.where(0, 4), 1);
            y.move(0, 0, 3);
            due(y.where(0, 4), NONE);
        });
        promise(7, "5 whether it is CLEAR (1, 0)", () -> {
            due(x.where(0, 5), 0);
            due(x.where(1, 5), 1);
            due(x.where(2, 5), 1);
        });
        promise(7, "6 what is in it (NONE).", () -> {
            TableArms y = with(CUP, 3, 6, BOX, 9, 2);
            due(y.where(1, 6), NONE);
            due(y.where(0, 6), NONE);
            y.move(0, 0, 9);
            due(y.where(1, 6), 0);
            due(y.where(0, 6), NONE);
            y.move(0, 0, 2);
            due(y.where(1, 6), NONE);
        });
        promise(7, "BAD", () -> {
            for (int v : outside(2)) {
                due(x.where(v, 0), BAD);
            }
            due(x.where(5, 0), BAD);
            for (int v : outside(6)) {
                due(x.where(0, v), BAD);
            }
            due(x.where(3, 7), BAD);
        });
    }

    private static void piles() {
        promise(8, "The i-th THING of the PILE on a CELL, from below", () -> {
            TableArms x = with(CUP, 1, 4, CUP, 1, 0, LID, 1, 4);
            x.move(0, 1, 4);
            due(x.pile(4, 0), 0);
            due(x.pile(4, 1), 2);
            due(x.pile(4, 2), 1);
        });
        promise(8, "of i = -1 how many", () -> {
            TableArms x = new TableArms();
            due(x.pile(4, -1), 0);
            for (int k = 0; k < 6; k++) {
                x.thing(CUP, 1, 4);
                due(x.pile(4, -1), k + 1);
            }
            due(x.pile(3, -1), 0);
            due(x.pile(5, -1), 0);
        });
        promise(8, "NONE: not so many.", () -> {
            TableArms x = with(BOX, 1, 4, CUP, 1, 5);
            due(x.pile(4, 1), NONE);
            due(x.pile(4, MAX), NONE);
            due(x.pile(0, 0), NONE);
            x.move(0, 1, 8);
            due(x.pile(4, 1), NONE);
            due(x.pile(4, -1), 1);
            due(x.pile(5, 0), NONE);
        });
        promise(8, "BAD: CELL, i below -1.", () -> {
            TableArms x = with(CUP, 1, 0);
            for (int cell : outside(7)) {
                due(x.pile(cell, 0), BAD);
            }
        });
        promise(8, "i below -1", () -> {
            TableArms x = with(CUP, 1, 0);
            due(x.pile(0, -1), 1);
            due(x.pile(0, -2), BAD);
            due(x.pile(0, NONE), BAD);
            due(x.pile(0, MIN), BAD);
            due(x.pile(7, -2), BAD);
        });
    }

    private static void reachCalls() {
        promise(9, "An ARM REACHES a set of CELLS (bits): what it was.", () -> {
            TableArms x = new TableArms();
            int was = 255;
            for (int set = 0; set < 256; set++) {
                due(x.reach(0, set), was);
                was = set;
            }
            due(x.reach(1, 0), 255);
            due(x.reach(0, 0), 255);
            due(x.reach(1, 255), 0);
        });
        promise(9, "BAD", () -> {
            TableArms x = new TableArms();
            due(x.reach(0, 17), 255);
            for (int set : outside(255)) {
                due(x.reach(0, set), BAD);
            }
            for (int arm : outside(1)) {
                due(x.reach(arm, 0), BAD);
            }
            due(x.reach(0, 255), 17);
            due(x.reach(1, 255), 255);
        });
    }

    private static void moveRefusals() {
        promise(10, "An ARM does a MOVE (to 0 to 7 a CELL, 8 to 13 INTO a BOX): 1.", () -> {
            for (int box = 0; box < 6; box++) {
                TableArms x = new TableArms();
                for (int k = 0; k < 6; k++) {
                    x.thing(k == box ? BOX : CUP, 1, k);
                }
                int cup = box == 0 ? 5 : 0;
                for (int to = 8; to < 14; to++) {
                    due(x.move(0, cup, to), to == 8 + box ? 1 : BAD);
                }
                dueIn(x, cup, box);
            }
        });
        promise(10, "BAD: ARM, THING, to", () -> {
            TableArms x = with(CUP, 1, 0);
            for (int v : outside(1)) {
                due(x.move(v, 0, 1), BAD);
            }
            for (int v : outside(0)) {
                due(x.move(0, v, 1), BAD);
            }
            due(x.move(0, 5, 1), BAD);
            due(x.move(0, 6, 1), BAD);
            for (int v : outside(13)) {
                due(x.move(0, 0, v), BAD);
            }
            due(x.where(0, 2), 0);
        });
        promise(10, "a THING that is not there, or no box", () -> {
            TableArms x = with(BOX, 1, 0, CUP, 1, 1, CLOTH, 1, 2, LID, 1, 3);
            for (int to = 9; to < 15; to++) {
                due(x.move(0, 1, to), BAD);
            }
            due(x.move(0, 1, 8), 1);
            TableArms full = with(BOX, 1, 0, BOX, 1, 1, BOX, 1, 2, BOX, 1, 3, BOX, 1, 4, BOX, 1, 5);
            due(full.move(0, 0, 13), STATE);
            due(full.move(0, 0, 14), BAD);
        });
        promise(10, "STATE: it cannot.", () -> {
            TableArms x = with(CUP, 1, 0, LID, 1, 0, BOX, 1, 1, CLOTH, 1, 1, BOX, 1, 2);
            due(x.move(0, 0, 5), STATE);
            due(x.move(0, 1, 10), STATE);
            due(x.move(0, 4, 12), STATE);
            due(x.move(0, 4, 10), STATE);
            x.reach(0, 254);
            due(x.move(0, 1, 5), STATE);
            due(x.move(1, 1, 5), 1);
        });
    }

    private static void keptTables() {
        promise(11, "THE TABLE is kept: its number.", () -> {
            TableArms x = with(CUP, 1, 0);
            for (int k = 0; k < 8; k++) {
                due(x.count(2), k);
                x.move(0, 0, k);
                due(x.keep(), k);
            }
            for (int k = 0; k < 8; k++) {
                x.back(k);
                due(x.where(0, 2), k);
            }
        });
        promise(11, "FULL: 8.", () -> {
            TableArms x = with(CUP, 1, 0);
            for (int k = 0; k < 8; k++) {
                due(x.keep(), k);
            }
            x.move(0, 0, 5);
            due(x.keep(), FULL);
            due(x.keep(), FULL);
            due(x.count(2), 8);
            due(x.same(NONE, 7), 0);
            due(x.same(0, 7), 1);
        });
        terms(3, "TABLES are KEPT: 8 at most, 0, 1, ..", () -> {
            TableArms x = new TableArms();
            for (int k = 0; k < 8; k++) {
                due(x.back(k), BAD);
                due(x.same(k, k), BAD);
                due(x.lesson(k, k, 0, 0), BAD);
                due(x.keep(), k);
                due(x.back(k), 1);
                due(x.same(k, k), 1);
            }
            due(x.keep(), FULL);
            due(x.back(8), BAD);
        });
        promise(12, "THE TABLE becomes one that is kept: 1.", () -> {
            TableArms x = with(BOX, 1, 0, CUP, 1, 1);
            x.keep();
            x.move(0, 1, 8);
            x.keep();
            x.reach(0, 7);
            due(x.back(0), 1);
            due(x.same(NONE, 0), 1);
            dueOn(x, 1, 1, 0);
            due(x.where(0, 6), NONE);
            due(x.reach(0, 255), 7);
            x.move(0, 1, 5);
            due(x.back(1), 1);
            dueIn(x, 1, 0);
            x.move(0, 1, 5);
            due(x.back(1), 1);
            due(x.same(NONE, 1), 1);
            due(x.same(0, 1), 0);
            due(x.count(2), 2);
        });
        promise(12, "BAD", () -> {
            TableArms x = new TableArms();
            due(x.back(0), BAD);
            x.keep();
            x.keep();
            for (int v : outside(1)) {
                due(x.back(v), BAD);
            }
            due(x.back(NONE), BAD);
            due(x.back(7), BAD);
        });
    }

    /** Six things: a pile of two, a box on a box, a lid in the upper one, a cup alone. */
    private static TableArms crowded() {
        TableArms x = with(CUP, 1, 0, CLOTH, 1, 0, BOX, 1, 6, LID, 1, 7, CUP, 1, 3, BOX, 1, 6);
        x.move(0, 3, 13);
        return x;
    }

    /** A cloth on a cup, a box on a cup; the lid is on the cell that has the other box's number. */
    private static TableArms piled() {
        return with(CUP, 1, 0, CLOTH, 1, 0, LID, 1, 5, CUP, 1, 2, BOX, 1, 2, BOX, 1, 6);
    }

    private static int dueSameBehind(TableArms x, int first, int second) {
        String kept = placesOf(x);
        x.keep();
        x.move(0, first / 14, first % 14);
        x.move(1, second / 14, second % 14);
        int want = placesOf(x).equals(kept) ? 1 : 0;
        dueOf("same() behind moves " + first + ", " + second, x.same(0, NONE), want);
        return want;
    }

    private static String placesOf(TableArms x) {
        StringBuilder all = new StringBuilder();
        for (int thing = 0; thing < 6; thing++) {
            for (int what = 2; what < 5; what++) {
                all.append(x.where(thing, what)).append(' ');
            }
        }
        return all.toString();
    }

    private static void sameTables() {
        promise(13, "Whether two TABLES are the same (NONE: THE TABLE): 1, 0.", () -> {
            TableArms x = with(CUP, 1, 0, CUP, 1, 1, BOX, 1, 2);
            due(x.same(NONE, NONE), 1);
            x.keep();
            due(x.same(0, NONE), 1);
            due(x.same(NONE, 0), 1);
            due(x.same(0, 0), 1);
            x.move(0, 0, 3);
            x.move(0, 1, 0);
            x.move(0, 0, 1);
            due(x.same(0, NONE), 0);
            due(x.same(NONE, 0), 0);
            x.keep();
            due(x.same(0, 1), 0);
            due(x.same(1, NONE), 1);
        });
        promise(13, "Whether two TABLES are the same", () -> {
            TableArms x = with(CUP, 1, 0, CLOTH, 1, 1);
            x.move(0, 0, 1);
            x.keep();
            x.move(0, 0, 2);
            x.move(0, 1, 2);
            x.move(0, 0, 2);
            x.keep();
            due(x.same(0, 1), 0);
            x.move(0, 1, 1);
            x.move(0, 0, 1);
            due(x.same(0, NONE), 1);
            x.move(0, 0, 7);
            x.move(0, 1, 6);
            x.move(0, 0, 1);
            x.move(0, 1, 1);
            due(x.pile(1, -1), 2);
            due(x.same(0, NONE), 0);
        });
        promise(13, "Whether two TABLES are the same", () -> {
            TableArms x = with(CUP, 1, 0, BOX, 1, 1, BOX, 1, 1, CLOTH, 1, 7);
            x.keep();
            x.move(0, 0, 10);
            x.keep();
            x.move(0, 0, 1);
            x.keep();
            x.move(0, 0, 7);
            x.move(0, 2, 0);
            x.move(0, 0, 9);
            x.move(0, 2, 1);
            x.keep();
            for (int a = 0; a < 4; a++) {
                for (int b = 0; b < 4; b++) {
                    due(x.same(a, b), a == b ? 1 : 0);
                }
            }
        });
        promise(13, "Whether two TABLES are the same", () -> {
            // Behind any two moves the table is the one that was kept if where() tells the same of all things.
            int same = 0;
            for (int first = 0; first < 6 * 14; first++) {
                for (int second = 0; second < 6 * 14; second++) {
                    same += dueSameBehind(crowded(), first, second) + dueSameBehind(piled(), first, second);
                }
            }
            holds(same > 200 && same < 12000, "some are the same, others not");
        });
        promise(13, "BAD", () -> {
            TableArms x = new TableArms();
            due(x.same(0, NONE), BAD);
            due(x.same(NONE, 0), BAD);
            x.keep();
            for (int v : outside(0)) {
                due(x.same(v, 0), BAD);
                due(x.same(0, v), BAD);
                due(x.same(v, NONE), BAD);
                due(x.same(NONE, v), BAD);
            }
            due(x.same(NONE - 1, 0), BAD);
            due(x.same(NONE + 1, 0), BAD);
        });
    }
}
