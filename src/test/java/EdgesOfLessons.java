/** Orders, lessons, plans: "Terms" 2 and 3, promises 14 to 22. */
final class EdgesOfLessons extends Edge {
    static void all() {
        asTold();
        orderNumbers();
        putOn();
        putIn();
        putBeside();
        formOne();
        formEach();
        lessonsTold();
        lessonsOfSheets();
        takenBack();
        theSet();
        firstThatBars();
        theQuestion();
        theQuarrel();
        plans();
        firstMoves();
    }

    private static int isTold(TableArms x, int a, int rel, int b) {
        return x.plan(orderOf(ONE, a, rel, b), 0) == 0 ? 1 : 0;
    }

    private static void asTold() {
        terms(2, "A THING is AS TOLD by rel and a SORT b: 0 on: it is right above a THING of SORT b in a PILE", () -> {
            TableArms x = with(CLOTH, 1, 0, LID, 1, 0, CUP, 1, 0, BOX, 1, 1);
            due(isTold(x, CUP, ON, LID), 1);
            due(isTold(x, CUP, ON, CLOTH), 0);
            due(isTold(x, LID, ON, CLOTH), 1);
            due(isTold(x, LID, ON, CUP), 0);
            due(isTold(x, CLOTH, ON, LID), 0);
            due(isTold(x, CUP, ON, CUP), 0);
            x.move(0, 2, 11);
            x.move(0, 3, 0);
            due(isTold(x, BOX, ON, LID), 1);
            due(isTold(x, CUP, ON, LID), 0);
            due(isTold(x, CUP, ON, BOX), 0);
            TableArms cups = with(CUP, 1, 2, CUP, 1, 2);
            due(isTold(cups, CUP, ON, CUP), 1);
        });
        terms(2, "1 in: it is in a BOX, and b is box", () -> {
            TableArms x = with(BOX, 1, 0, CUP, 1, 0);
            for (int b = 0; b < 4; b++) {
                due(isTold(x, CUP, IN, b), 0);
            }
            x.move(0, 1, 5);
            x.move(0, 1, 8);
            for (int b = 0; b < 4; b++) {
                due(isTold(x, CUP, IN, b), b == BOX ? 1 : 0);
                due(isTold(x, BOX, IN, b), 0);
            }
        });
        terms(2, "2 beside: it is the lowest of its PILE", () -> {
            due(isTold(with(CUP, 1, 0, CLOTH, 1, 1), CUP, BESIDE, CLOTH), 1);
            due(isTold(with(CUP, 1, 0, LID, 1, 0, CLOTH, 1, 1), CUP, BESIDE, CLOTH), 1);
            due(isTold(with(LID, 1, 0, CUP, 1, 0, CLOTH, 1, 1), CUP, BESIDE, CLOTH), 0);
            TableArms x = with(CUP, 1, 0, CLOTH, 1, 1, BOX, 1, 4);
            x.move(0, 0, 10);
            due(isTold(x, CUP, BESIDE, CLOTH), 0);
            x.move(0, 2, 0);
            due(isTold(x, CUP, BESIDE, CLOTH), 0);
            due(isTold(x, BOX, BESIDE, CLOTH), 1);
        });
        terms(2, "and in the PILE of some NEIGHBOUR of that CELL is a THING of SORT b.", () -> {
            due(isTold(with(CUP, 1, 0, CLOTH, 1, 4, LID, 1, 4), CUP, BESIDE, CLOTH), 1);
            due(isTold(with(CUP, 1, 0, LID, 1, 4, CLOTH, 1, 4), CUP, BESIDE, CLOTH), 1);
            due(isTold(with(CUP, 1, 0, CLOTH, 1, 0), CUP, BESIDE, CLOTH), 0);
            due(isTold(with(CUP, 1, 0), CUP, BESIDE, CUP), 0);
            due(isTold(with(CUP, 1, 0, CUP, 1, 1), CUP, BESIDE, CUP), 1);
            TableArms x = with(CUP, 1, 0, BOX, 1, 1, CLOTH, 1, 7);
            x.move(0, 2, 9);
            due(isTold(x, CUP, BESIDE, CLOTH), 0);
            due(isTold(x, CUP, BESIDE, BOX), 1);
        });
        terms(2, "2 beside: it is the lowest of its PILE, and in the PILE of some NEIGHBOUR", () -> {
            // What is in a box is in no pile, whatever the box's number and wherever the other is.
            for (int box = 0; box < 4; box++) {
                for (int cell = 0; cell < 8; cell++) {
                    TableArms x = with(BOX, 1, 0, BOX, 1, 1, BOX, 1, 2, BOX, 1, 3, CUP, 1, 7, CLOTH, 1, 6);
                    x.move(0, 4, 8 + box);
                    x.move(0, 5, cell);
                    due(isTold(x, CUP, BESIDE, CLOTH), 0);
                    due(isTold(x, CLOTH, BESIDE, CUP), 0);
                }
            }
        });
    }

    /** Things of two sorts far apart, so that each of the six ways to put one of them is another table. */
    private static void orderNumbers() {
        terms(2, "ORDERS 0 .. 95", () -> {
            TableArms x = new TableArms();
            x.keep();
            for (int order : outside(95)) {
                due(x.order(order), BAD);
                due(x.barred(order, 0), BAD);
                due(x.plan(order, 0), BAD);
            }
            for (int order = 0; order < 96; order++) {
                due(x.order(order), order % 2 == 1 ? 0 : STATE);
                due(x.barred(order, 0), NONE);
                due(x.plan(order, 0), NONE);
            }
            due(x.fits(95), 95);
            due(x.fits(96), NONE);
        });
        terms(2, "form + 2 (a + 4 (rel + 3 b)): form 0 one, 1 each; a, b SORTS.", () -> {
            for (int a = 0; a < 4; a++) {
                for (int b = 0; b < 4; b++) {
                    TableArms x = with(a, 1, 0, b, 1, 7);
                    x.keep();
                    for (int form = 0; form < 2; form++) {
                        due(x.order(form + 2 * (a + 12 * b)), 1);
                        dueOn(x, 0, 7, 1);
                        x.back(0);
                        due(x.order(form + 2 * (a + 4 * (2 + 3 * b))), 1);
                        dueOn(x, 0, 3, 0);
                        x.back(0);
                        boolean goesIn = b == BOX && a != BOX;
                        due(x.order(form + 2 * (a + 4 * (1 + 3 * b))), goesIn ? 1 : STATE);
                        due(x.where(0, 4), goesIn ? 1 : NONE);
                        x.back(0);
                    }
                }
            }
        });
        terms(2, "ORDERS 0 .. 95", () -> {
            TableArms x = with(CUP, 1, 0, CUP, 1, 7);
            due(x.order(0), 1);
            dueOn(x, 0, 7, 1);
            TableArms y = with(LID, 1, 0, LID, 1, 7);
            due(y.order(95), 1);
            dueOn(y, 0, 3, 0);
        });
        promise(14, "An ORDER is done on THE TABLE: how many THINGS were MOVED.", () -> {
            TableArms x = with(CUP, 1, 0, CUP, 1, 1, CUP, 1, 2, CLOTH, 1, 5, CLOTH, 1, 6, CLOTH, 1, 7);
            x.keep();
            due(x.order(orderOf(ONE, CUP, ON, CLOTH)), 1);
            due(x.order(orderOf(EACH, CUP, ON, CLOTH)), 2);
            due(x.order(orderOf(EACH, CUP, ON, CLOTH)), 0);
            x.back(0);
            due(x.order(orderOf(EACH, CUP, ON, CLOTH)), 3);
            due(x.order(orderOf(EACH, BOX, ON, CLOTH)), 0);
        });
        promise(14, "BAD; STATE: it FAILS.", () -> {
            TableArms x = with(CUP, 1, 0);
            for (int order : outside(95)) {
                due(x.order(order), BAD);
            }
            due(x.order(orderOf(ONE, CUP, ON, CLOTH)), STATE);
            due(x.order(orderOf(EACH, CUP, ON, CLOTH)), STATE);
            due(x.order(orderOf(ONE, LID, ON, CLOTH)), STATE);
        });
    }

    private static void putOn() {
        terms(2, "PUT (a THING by rel, b): on: a MOVE to the CELL of the first THING of SORT b, another one, that is CLEAR", () -> {
            TableArms x = with(CUP, 1, 0, CLOTH, 1, 3, LID, 1, 3, CLOTH, 1, 7, CLOTH, 1, 5);
            due(x.order(orderOf(ONE, CUP, ON, CLOTH)), 1);
            dueOn(x, 0, 7, 1);
        });
        terms(2, "another one, that is CLEAR", () -> {
            TableArms x = with(CUP, 1, 0, CUP, 1, 7, CUP, 1, 3);
            due(x.order(orderOf(ONE, CUP, ON, CUP)), 1);
            dueOn(x, 0, 7, 1);
            due(with(CUP, 1, 0).order(orderOf(ONE, CUP, ON, CUP)), STATE);
            TableArms covered = with(CUP, 1, 0, CLOTH, 1, 3, LID, 1, 3);
            due(covered.order(orderOf(ONE, CUP, ON, CLOTH)), STATE);
            TableArms boxed = with(CUP, 1, 0, CLOTH, 1, 3, BOX, 1, 4);
            boxed.move(0, 1, 10);
            due(boxed.order(orderOf(ONE, CUP, ON, CLOTH)), STATE);
        });
        terms(2, "on: a MOVE to the CELL", () -> {
            TableArms x = with(BOX, 1, 3, CUP, 1, 0);
            x.move(0, 1, 8);
            due(x.order(orderOf(ONE, CUP, ON, BOX)), 1);
            dueOn(x, 1, 3, 1);
            due(x.where(0, 6), NONE);
        });
    }

    private static void putIn() {
        terms(2, "in: INTO the first box that is CLEAR and empty, if b is box", () -> {
            TableArms x = with(CUP, 1, 0, BOX, 1, 7, BOX, 1, 3);
            due(x.order(orderOf(ONE, CUP, IN, BOX)), 1);
            dueIn(x, 0, 1);
            TableArms taken = with(CUP, 1, 0, BOX, 1, 7, BOX, 1, 3, LID, 1, 4);
            taken.move(0, 3, 9);
            due(taken.order(orderOf(ONE, CUP, IN, BOX)), 1);
            dueIn(taken, 0, 2);
            TableArms covered = with(CUP, 1, 0, BOX, 1, 7, BOX, 1, 3, CLOTH, 1, 7);
            due(covered.order(orderOf(ONE, CUP, IN, BOX)), 1);
            dueIn(covered, 0, 2);
        });
        terms(2, "in: INTO the first box", () -> {
            TableArms x = with(BOX, 1, 3, CUP, 1, 0, BOX, 1, 1);
            due(x.order(orderOf(ONE, CUP, IN, BOX)), 1);
            dueIn(x, 1, 0);
            TableArms last = with(CUP, 1, 0, CUP, 1, 1, CUP, 1, 2, CUP, 1, 3, CUP, 1, 4, BOX, 1, 7);
            due(last.order(orderOf(EACH, CUP, IN, BOX)), 1);
            dueIn(last, 0, 5);
        });
        terms(2, "that is CLEAR and empty, if b is box", () -> {
            TableArms x = with(CUP, 1, 0, BOX, 1, 7, CUP, 1, 7);
            due(x.order(orderOf(ONE, CUP, IN, BOX)), STATE);
            due(with(CUP, 1, 0).order(orderOf(ONE, CUP, IN, BOX)), STATE);
            TableArms y = with(CUP, 1, 0, BOX, 1, 1, CLOTH, 1, 2, LID, 1, 3);
            for (int b = 0; b < 4; b++) {
                if (b != BOX) {
                    due(y.order(orderOf(ONE, CUP, IN, b)), STATE);
                    due(y.order(orderOf(EACH, CUP, IN, b)), STATE);
                }
            }
            TableArms boxes = with(BOX, 1, 0, BOX, 1, 1);
            due(boxes.order(orderOf(ONE, BOX, IN, BOX)), STATE);
            due(boxes.order(orderOf(EACH, BOX, IN, BOX)), STATE);
        });
    }

    private static void putBeside() {
        String all = "beside: a MOVE to the least NEIGHBOUR with no PILE of the CELL of the first THING of SORT b,"
                + " another one, that is on a CELL; none: it cannot.";
        int[] least = {1, 0, 1, 2, 0, 1, 2, 3};
        int[] next = {4, 2, 3, 7, 5, 4, 5, 6};
        terms(2, all, () -> {
            for (int cell = 0; cell < 8; cell++) {
                TableArms x = with(CLOTH, 1, cell, CUP, 1, cell);
                due(x.order(orderOf(ONE, CUP, BESIDE, CLOTH)), 1);
                dueOn(x, 1, least[cell], 0);
                TableArms y = with(CLOTH, 1, cell, CUP, 1, cell, LID, 1, least[cell]);
                due(y.order(orderOf(ONE, CUP, BESIDE, CLOTH)), 1);
                dueOn(y, 1, next[cell], 0);
            }
        });
        terms(2, "with no PILE", () -> {
            TableArms x = with(CLOTH, 1, 1, CUP, 1, 1, LID, 1, 0, LID, 1, 2, LID, 1, 5);
            due(x.order(orderOf(ONE, CUP, BESIDE, CLOTH)), STATE);
            x.move(0, 4, 0);
            due(x.order(orderOf(ONE, CUP, BESIDE, CLOTH)), 1);
            dueOn(x, 1, 5, 0);
        });
        terms(2, "of the first THING of SORT b, another one, that is on a CELL", () -> {
            TableArms x = with(CLOTH, 1, 7, CLOTH, 1, 0, CUP, 1, 5);
            due(x.order(orderOf(ONE, CUP, BESIDE, CLOTH)), 1);
            dueOn(x, 2, 3, 0);
            TableArms boxed = with(CLOTH, 1, 7, BOX, 1, 6, CLOTH, 1, 0, CUP, 1, 3);
            boxed.move(0, 0, 9);
            due(boxed.order(orderOf(ONE, CUP, BESIDE, CLOTH)), 1);
            dueOn(boxed, 3, 1, 0);
            TableArms covered = with(CLOTH, 1, 7, LID, 1, 7, CLOTH, 1, 0, CUP, 1, 2);
            due(covered.order(orderOf(ONE, CUP, BESIDE, CLOTH)), 1);
            dueOn(covered, 3, 3, 0);
        });
        terms(2, "another one, that is on a CELL; none: it cannot.", () -> {
            due(with(CUP, 1, 3).order(orderOf(ONE, CUP, BESIDE, CUP)), STATE);
            due(with(CUP, 1, 3).order(orderOf(ONE, CUP, BESIDE, LID)), STATE);
            TableArms boxed = with(CLOTH, 1, 7, BOX, 1, 6, CUP, 1, 3);
            boxed.move(0, 0, 9);
            due(boxed.order(orderOf(ONE, CUP, BESIDE, CLOTH)), STATE);
            TableArms closed = with(BOX, 1, 0, LID, 1, 1, LID, 1, 4, BOX, 1, 7, CUP, 1, 2);
            due(closed.order(orderOf(ONE, CUP, BESIDE, BOX)), STATE);
        });
        terms(2, "none: it cannot.", () -> {
            // No cell is free beside the cloth, and a clear empty box is no cell.
            TableArms x = with(BOX, 1, 7, CLOTH, 1, 4, LID, 1, 0, LID, 1, 5, CUP, 1, 2);
            x.keep();
            due(x.order(orderOf(ONE, CUP, BESIDE, CLOTH)), STATE);
            due(x.order(orderOf(EACH, CUP, BESIDE, CLOTH)), STATE);
            due(x.same(0, NONE), 1);
        });
        terms(2, "(Numbers tell which is first; ARMS are not asked.)", () -> {
            TableArms x = with(CUP, 1, 4, CUP, 1, 0, CLOTH, 1, 7, CLOTH, 1, 6);
            x.reach(0, 0);
            x.reach(1, 0);
            due(x.order(orderOf(ONE, CUP, ON, CLOTH)), 1);
            dueOn(x, 0, 7, 1);
            dueOn(x, 1, 0, 0);
        });
    }

    private static void formOne() {
        terms(2, "one: the first THING of SORT a that is CLEAR or in a BOX that is CLEAR, and not AS TOLD, is PUT", () -> {
            TableArms covered = with(CUP, 1, 0, LID, 1, 0, CUP, 1, 1, CLOTH, 1, 7);
            due(covered.order(orderOf(ONE, CUP, ON, CLOTH)), 1);
            dueOn(covered, 2, 7, 1);
            TableArms told = with(CLOTH, 1, 5, CUP, 1, 5, CUP, 1, 1, CLOTH, 1, 7);
            due(told.order(orderOf(ONE, CUP, ON, CLOTH)), 1);
            dueOn(told, 2, 7, 1);
            TableArms boxed = with(CUP, 1, 0, BOX, 1, 6, CUP, 1, 1, CLOTH, 1, 7, LID, 1, 3);
            boxed.move(0, 0, 9);
            boxed.keep();
            due(boxed.order(orderOf(ONE, CUP, ON, CLOTH)), 1);
            dueOn(boxed, 0, 7, 1);
            boxed.back(0);
            boxed.move(0, 4, 6);
            due(boxed.order(orderOf(ONE, CUP, ON, CLOTH)), 1);
            dueIn(boxed, 0, 1);
            dueOn(boxed, 2, 7, 1);
        });
        terms(2, "there is none, or it cannot: it FAILS.", () -> {
            due(with(CLOTH, 1, 0).order(orderOf(ONE, CUP, ON, CLOTH)), STATE);
            due(with(CUP, 1, 0, LID, 1, 0, CLOTH, 1, 1).order(orderOf(ONE, CUP, ON, CLOTH)), STATE);
            due(with(CLOTH, 1, 0, CUP, 1, 0, CLOTH, 1, 1).order(orderOf(ONE, CUP, ON, CLOTH)), STATE);
            // Cup 0 cannot come beside the box; cup 1 could go on the cloth, but it is not the first.
            TableArms x = with(BOX, 1, 0, LID, 1, 1, LID, 1, 4, CUP, 1, 7, CUP, 1, 0);
            due(x.order(orderOf(ONE, CUP, BESIDE, BOX)), STATE);
            TableArms boxAndCup = with(BOX, 1, 0, BOX, 1, 1, CUP, 1, 2);
            due(boxAndCup.order(orderOf(ONE, BOX, IN, BOX)), STATE);
        });
    }

    private static void formEach() {
        String all = "Each: by numbers each THING of SORT a that is not AS TOLD when it comes to it is PUT, if it can";
        terms(2, all, () -> {
            TableArms x = with(CUP, 1, 0, CUP, 1, 7);
            due(x.order(orderOf(EACH, CUP, BESIDE, CUP)), 1);
            dueOn(x, 0, 3, 0);
            dueOn(x, 1, 7, 0);
            TableArms oneCloth = with(CUP, 1, 0, CUP, 1, 2, CLOTH, 1, 5);
            due(oneCloth.order(orderOf(EACH, CUP, ON, CLOTH)), 1);
            dueOn(oneCloth, 0, 5, 1);
            dueOn(oneCloth, 1, 2, 0);
        });
        terms(2, "is PUT, if it can", () -> {
            TableArms covered = with(CUP, 1, 0, LID, 1, 0, CUP, 1, 1, CLOTH, 1, 7, CLOTH, 1, 6);
            due(covered.order(orderOf(EACH, CUP, ON, CLOTH)), 1);
            dueOn(covered, 0, 0, 0);
            dueOn(covered, 2, 7, 1);
        });
        terms(2, "by numbers each THING of SORT a that is not AS TOLD when it comes to it", () -> {
            TableArms freed = with(CUP, 1, 4, CUP, 1, 0, CLOTH, 1, 7, CLOTH, 1, 6);
            freed.move(0, 0, 0);
            due(freed.order(orderOf(EACH, CUP, ON, CLOTH)), 2);
            dueOn(freed, 0, 7, 1);
            dueOn(freed, 1, 6, 1);
            TableArms under = with(CUP, 1, 0, CUP, 1, 0, CLOTH, 1, 7, CLOTH, 1, 6);
            due(under.order(orderOf(EACH, CUP, ON, CLOTH)), 1);
            dueOn(under, 0, 0, 0);
            dueOn(under, 1, 7, 1);
        });
        terms(2, "it FAILS, if there were such and none was PUT.", () -> {
            due(with(CUP, 1, 0).order(orderOf(EACH, CUP, ON, CLOTH)), STATE);
            due(with(CLOTH, 1, 0).order(orderOf(EACH, CUP, ON, CLOTH)), 0);
            due(with(CLOTH, 1, 0, CUP, 1, 0).order(orderOf(EACH, CUP, ON, CLOTH)), 0);
            due(with(CUP, 1, 0, LID, 1, 0, CLOTH, 1, 1).order(orderOf(EACH, CUP, ON, CLOTH)), STATE);
            due(new TableArms().order(orderOf(EACH, CUP, ON, CLOTH)), 0);
        });
        terms(2, "Where it FAILS the TABLE is as it was.", () -> {
            TableArms x = with(CUP, 1, 0, LID, 1, 0, BOX, 1, 1, CUP, 1, 5);
            x.move(0, 3, 10);
            x.keep();
            int failing = 0;
            for (int order = 0; order < 96; order++) {
                x.back(0);
                if (x.order(order) == STATE) {
                    due(x.same(0, NONE), 1);
                    failing++;
                }
            }
            holds(failing > 20, "many orders fail");
        });
    }

    /** Table 0: a cup on 0, a cloth on 5; table 1: the cup on the cloth. */
    private static TableArms withTwoKept() {
        TableArms x = with(CUP, 1, 0, CLOTH, 1, 5);
        x.keep();
        x.move(0, 0, 5);
        x.keep();
        return x;
    }

    private static final int PUT_ONE = 24, PUT_EACH = 25;

    private static void lessonsTold() {
        terms(2, "LESSONS, as they are told (8 at most): a START and an END, TABLES that are kept", () -> {
            TableArms x = withTwoKept();
            for (int k = 0; k < 8; k++) {
                due(x.lesson(k % 2, k / 2 % 2, 0, 0), k);
                due(x.count(3), k + 1);
            }
            due(x.lesson(0, 0, 0, 0), FULL);
            due(x.count(3), 8);
        });
        terms(2, "whether it is a NO, a TEACHER (0 to 9)", () -> {
            for (int teacher = 0; teacher < 10; teacher++) {
                TableArms x = withTwoKept();
                due(x.lesson(0, 1, 1, teacher), 0);
                due(x.barred(PUT_ONE, 1), teacher);
            }
            TableArms x = withTwoKept();
            for (int teacher : outside(9)) {
                due(x.lesson(0, 1, 0, teacher), BAD);
            }
            due(x.count(3), 0);
        });
        terms(2, "each stands, till it is TAKEN BACK.", () -> {
            TableArms x = withTwoKept();
            x.lesson(0, 1, 0, 0);
            x.lesson(0, 1, 0, 1);
            due(x.count(3), 2);
            due(x.fits(-1), 2);
            x.unteach(0);
            due(x.count(3), 1);
            due(x.fits(-1), 2);
            due(x.barred(0, 0), 1);
            x.unteach(1);
            due(x.count(3), 0);
            due(x.fits(-1), 96);
            due(x.barred(0, 0), NONE);
        });
        promise(15, "A LESSON: its number.", () -> {
            TableArms x = withTwoKept();
            due(x.lesson(0, 1, 0, 0), 0);
            due(x.lesson(1, 1, 1, 9), 1);
            x.unteach(0);
            due(x.lesson(0, 0, 0, 0), 2);
        });
        promise(15, "BAD: kept TABLES, NO (0, 1), TEACHER; FULL: 8.", () -> {
            TableArms x = withTwoKept();
            for (int v : outside(1)) {
                due(x.lesson(v, 0, 0, 0), BAD);
                due(x.lesson(0, v, 0, 0), BAD);
                due(x.lesson(0, 0, v, 0), BAD);
            }
            due(x.lesson(NONE, 0, 0, 0), BAD);
            due(x.lesson(0, NONE, 0, 0), BAD);
            due(x.lesson(7, 0, 0, 0), BAD);
            due(x.lesson(0, 7, 0, 0), BAD);
            due(new TableArms().lesson(0, 0, 0, 0), BAD);
            due(x.count(3), 0);
            due(x.lesson(1, 1, 1, 9), 0);
        });
        promise(15, "TEACHER", () -> {
            TableArms x = withTwoKept();
            for (int v : outside(9)) {
                due(x.lesson(0, 0, 0, v), BAD);
            }
            due(x.lesson(0, 0, 0, 0), 0);
            due(x.lesson(0, 0, 0, 9), 1);
        });
        promise(15, "FULL: 8.", () -> {
            TableArms x = withTwoKept();
            for (int k = 0; k < 8; k++) {
                due(x.lesson(0, 1, 0, k), k);
            }
            due(x.lesson(0, 1, 0, 0), FULL);
            x.unteach(3);
            due(x.lesson(0, 1, 0, 0), FULL);
            due(x.count(3), 7);
        });
    }

    private static void lessonsOfSheets() {
        String all = "n LESSONS (1 to 4), four ITEMS each of a SHEET from i on: how many came; those that would be BAD,"
                + " FULL are passed over.";
        promise(16, all, () -> {
            for (int n = 1; n <= 4; n++) {
                TableArms x = withTwoKept();
                fill(x, 0, n % 3, 9, 0, 1, 1, 5, 0, 1, 0, 6, 0, 1, 0, 7, 1, 1, 0, 8);
                due(x.lessons(0, 1, n), n);
                due(x.count(3), n);
                due(x.barred(PUT_ONE, 1), 5);
                due(x.barred(0, 1), n == 1 ? NONE : 6);
            }
        });
        promise(16, "n LESSONS (1 to 4)", () -> {
            TableArms x = withTwoKept();
            x.sheet(0, INTS, 40);
            for (int n : new int[] {MIN, -1, 0, 5, 10, MAX}) {
                due(x.lessons(0, 0, n), BAD);
            }
            due(x.count(3), 0);
        });
        promise(16, "those that would be BAD, FULL are passed over", () -> {
            TableArms x = withTwoKept();
            fill(x, 0, BYTES, 2, 0, 0, 0, 0, 0, 2, 0, 0, 0, 0, 10, -1, 0, 0, 0);
            due(x.lessons(0, 0, 4), 0);
            due(x.status(), 0);
            due(x.count(3), 0);
            fill(x, 0, INTS, 0, 1, 0, 0, 0, 2, 0, 0, 0, 1, 1, 9, 0, 0, -1, 0);
            due(x.lessons(0, 0, 4), 2);
            due(x.count(3), 2);
            due(x.unteach(1), 1);
            due(x.unteach(2), BAD);
        });
        promise(16, "FULL are passed over", () -> {
            TableArms x = withTwoKept();
            for (int k = 0; k < 6; k++) {
                x.lesson(0, 1, 0, 0);
            }
            x.sheet(0, INTS, 16);
            due(x.lessons(0, 0, 4), 2);
            due(x.count(3), 8);
            due(x.lessons(0, 0, 4), 0);
            due(x.lessons(0, 12, 1), 0);
            due(x.status(), 0);
            due(x.count(3), 8);
        });
        promise(16, "BAD: SHEET, n; NULL; PLACE.", () -> {
            TableArms x = withTwoKept();
            for (int sheet : outside(7)) {
                due(x.lessons(sheet, 0, 1), BAD);
            }
        });
        promise(16, "NULL; PLACE.", () -> {
            TableArms x = withTwoKept();
            due(x.lessons(0, 0, 1), NULL);
            due(x.status(), 1);
            x.sheet(0, INTS, 4);
            due(x.lessons(0, 0, 1), 1);
            x.drop(0);
            due(x.lessons(0, 0, 1), NULL);
        });
        promise(16, "PLACE", () -> {
            TableArms x = withTwoKept();
            x.sheet(0, INTS, 16);
            x.sheet(1, INTS, 0);
            x.sheet(2, INTS, 3);
            for (int n = 1; n <= 4; n++) {
                due(x.lessons(0, 17 - 4 * n, n), PLACE);
                due(x.status(), 2);
                due(x.lessons(0, -1, n), PLACE);
                due(x.lessons(0, MIN, n), PLACE);
                due(x.lessons(0, MAX, n), PLACE);
                due(x.lessons(0, MAX - 4 * n + 1, n), PLACE);
                due(x.lessons(1, 0, n), PLACE);
                due(x.lessons(2, 0, n), PLACE);
            }
            due(x.count(3), 0);
            due(x.lessons(0, 12, 1), 1);
            due(x.lessons(0, 0, 4), 4);
            due(x.lessons(0, 8, 2), 2);
        });
    }

    private static void takenBack() {
        promise(17, "A LESSON is TAKEN BACK: 1.", () -> {
            TableArms x = withTwoKept();
            for (int k = 0; k < 8; k++) {
                x.lesson(0, 1, 0, 0);
            }
            for (int k = 7; k >= 0; k--) {
                due(x.fits(-1), 2);
                due(x.unteach(k), 1);
                due(x.count(3), k);
            }
            due(x.fits(-1), 96);
        });
        promise(17, "BAD; STATE: it was.", () -> {
            TableArms x = withTwoKept();
            due(x.unteach(0), BAD);
            x.lesson(0, 1, 0, 0);
            x.lesson(0, 1, 0, 0);
            for (int v : outside(1)) {
                due(x.unteach(v), BAD);
            }
            due(x.unteach(7), BAD);
            due(x.count(3), 2);
        });
        promise(17, "STATE: it was.", () -> {
            TableArms x = withTwoKept();
            x.lesson(0, 1, 0, 0);
            x.lesson(0, 1, 0, 0);
            due(x.unteach(0), 1);
            due(x.unteach(0), STATE);
            due(x.count(3), 1);
            due(x.unteach(1), 1);
            due(x.unteach(1), STATE);
        });
    }

    private static void theSet() {
        terms(2, "It BARS an ORDER that FAILS on its START, or gives another TABLE than its END", () -> {
            TableArms x = new TableArms();
            x.keep();
            x.lesson(0, 0, 0, 0);
            // Of nothing each order of each moves nothing; every order of one fails.
            due(x.fits(-1), 48);
            due(x.fits(0), 1);
            due(x.fits(47), 95);
            due(x.barred(0, 0), 0);
            due(x.barred(1, 0), NONE);
            TableArms y = withTwoKept();
            y.lesson(0, 1, 0, 0);
            due(y.fits(-1), 2);
            due(y.barred(orderOf(ONE, CUP, BESIDE, CLOTH), 0), 0);
        });
        terms(2, "a NO BARS one that does not FAIL and gives its END.", () -> {
            TableArms x = new TableArms();
            x.keep();
            x.lesson(0, 0, 1, 0);
            due(x.fits(-1), 48);
            due(x.fits(0), 0);
            due(x.fits(47), 94);
            due(x.barred(1, 0), 0);
            TableArms y = withTwoKept();
            y.lesson(0, 1, 1, 0);
            due(y.fits(-1), 94);
            due(y.barred(PUT_ONE, 0), 0);
            due(y.barred(PUT_EACH, 0), 0);
        });
        terms(2, "It BARS an ORDER that FAILS on its START, or gives another TABLE than its END", () -> {
            // From table 1 on the cup must come back beside the cloth; on table 0 it is there.
            TableArms x = with(CUP, 1, 1, CLOTH, 1, 5);
            x.keep();
            x.move(0, 0, 5);
            x.keep();
            x.lesson(1, 0, 0, 0);
            due(x.fits(-1), 2);
            due(x.fits(0), orderOf(ONE, CUP, BESIDE, CLOTH));
            due(x.fits(1), orderOf(EACH, CUP, BESIDE, CLOTH));
            x.unteach(0);
            x.lesson(1, 0, 1, 0);
            due(x.fits(-1), 94);
            due(x.barred(orderOf(ONE, CUP, BESIDE, CLOTH), 0), 1);
        });
        terms(2, "THE SET: all ORDERS that no LESSON that stands BARS.", () -> {
            // A thing that comes changes the tables that are kept, and so the set.
            TableArms x = withTwoKept();
            x.lesson(0, 1, 0, 0);
            due(x.fits(-1), 2);
            x.thing(LID, 1, 5);
            due(x.fits(-1), 0);
            TableArms y = withTwoKept();
            y.lesson(0, 1, 0, 0);
            due(y.fits(-1), 2);
            y.thing(LID, 1, 7);
            due(y.fits(-1), 2);
            due(y.question(1), 2);
        });
        terms(2, "THE SET: all ORDERS that no LESSON that stands BARS.", () -> {
            TableArms x = withTwoKept();
            due(x.fits(-1), 96);
            x.lesson(0, 1, 0, 0);
            due(x.fits(-1), 2);
            x.lesson(0, 1, 1, 0);
            due(x.fits(-1), 0);
            x.unteach(0);
            due(x.fits(-1), 94);
            x.unteach(1);
            due(x.fits(-1), 96);
        });
        promise(18, "THE SET: how many ORDERS (i = -1); the i-th; NONE: not so many.", () -> {
            TableArms x = withTwoKept();
            for (int k = 0; k < 96; k++) {
                due(x.fits(k), k);
            }
            due(x.fits(96), NONE);
            due(x.fits(MAX), NONE);
            x.lesson(0, 1, 0, 0);
            due(x.fits(-1), 2);
            due(x.fits(0), PUT_ONE);
            due(x.fits(1), PUT_EACH);
            due(x.fits(2), NONE);
            x.lesson(0, 1, 1, 0);
            due(x.fits(-1), 0);
            due(x.fits(0), NONE);
        });
        promise(18, "BAD: i below -1.", () -> {
            TableArms x = withTwoKept();
            due(x.fits(-1), 96);
            due(x.fits(-2), BAD);
            due(x.fits(NONE), BAD);
            due(x.fits(MIN), BAD);
        });
    }

    private static void firstThatBars() {
        promise(19, "The first LESSON that bars an ORDER (what = 0; NONE), its TEACHER (1; NONE).", () -> {
            TableArms x = withTwoKept();
            due(x.barred(0, 0), NONE);
            due(x.barred(0, 1), NONE);
            x.lesson(0, 1, 1, 4);
            x.lesson(0, 1, 0, 0);
            x.lesson(0, 1, 0, 9);
            due(x.barred(PUT_ONE, 0), 0);
            due(x.barred(PUT_ONE, 1), 4);
            due(x.barred(0, 0), 1);
            due(x.barred(0, 1), 0);
            due(x.barred(95, 0), 1);
            x.unteach(1);
            due(x.barred(0, 0), 2);
            due(x.barred(0, 1), 9);
            x.unteach(2);
            due(x.barred(0, 0), NONE);
            due(x.barred(0, 1), NONE);
        });
        promise(19, "BAD", () -> {
            TableArms x = withTwoKept();
            x.lesson(0, 1, 0, 0);
            for (int v : outside(95)) {
                due(x.barred(v, 0), BAD);
                due(x.barred(v, 1), BAD);
            }
            for (int v : outside(1)) {
                due(x.barred(0, v), BAD);
            }
        });
    }

    private static void theQuestion() {
        String all = "THE QUESTION: of TABLES that are kept the first of those on which ORDERS of THE SET give the most"
                + " unlike TABLES (to FAIL is one more).";
        terms(2, all, () -> {
            // Cloth on cup: it fails, nothing changes, or the cloth comes beside. Far apart: both on, both beside, too.
            TableArms x = with(CUP, 1, 0, CLOTH, 1, 0);
            for (int k = 0; k < 7; k++) {
                x.keep();
            }
            due(x.question(0), 0);
            due(x.question(1), 3);
            x.move(0, 1, 7);
            x.keep();
            due(x.question(0), 7);
            due(x.question(1), 6);
        });
        terms(2, "of TABLES that are kept the first of those", () -> {
            TableArms x = with(CUP, 1, 0, CLOTH, 1, 0);
            x.keep();
            x.move(0, 1, 7);
            x.keep();
            x.keep();
            x.move(0, 1, 6);
            x.keep();
            due(x.question(0), 1);
            due(x.question(1), 6);
        });
        terms(2, "(to FAIL is one more)", () -> {
            TableArms x = new TableArms();
            x.keep();
            due(x.question(1), 2);
            x.lesson(0, 0, 0, 0);
            due(x.question(1), 1);
            x.unteach(0);
            x.lesson(0, 0, 1, 0);
            due(x.question(1), 1);
        });
        terms(2, "on which ORDERS of THE SET", () -> {
            TableArms x = withTwoKept();
            due(x.question(1), 6);
            x.lesson(0, 1, 0, 0);
            due(x.question(0), 1);
            due(x.question(1), 2);
            x.lesson(0, 1, 1, 0);
            due(x.question(0), 0);
            due(x.question(1), 0);
        });
        promise(20, "THE QUESTION: the TABLE (what = 0; NONE: none is kept), how many unlike ones (1; 0).", () -> {
            TableArms x = with(CUP, 1, 0);
            due(x.question(0), NONE);
            due(x.question(1), 0);
            x.keep();
            due(x.question(0), 0);
            due(x.question(1), 2);
        });
        promise(20, "BAD", () -> {
            TableArms x = withTwoKept();
            for (int v : outside(1)) {
                due(x.question(v), BAD);
                due(new TableArms().question(v), BAD);
            }
        });
    }

    private static void theQuarrel() {
        String all = "QUARREL: the fewest LESSONS that stand that must be TAKEN BACK so that THE SET has an ORDER; of"
                + " several sets the least number (bits).";
        terms(2, all, () -> {
            TableArms x = withTwoKept();
            for (int k = 0; k < 8; k++) {
                x.lesson(0, 1, k % 2, 0);
            }
            due(x.quarrel(), 0x55);
            x.unteach(1);
            due(x.quarrel(), 0xA8);
            x.unteach(0);
            due(x.quarrel(), 0x54);
        });
        terms(2, "the fewest LESSONS that stand", () -> {
            TableArms x = withTwoKept();
            x.lesson(0, 1, 0, 0);
            x.lesson(0, 1, 0, 0);
            x.lesson(0, 1, 1, 0);
            due(x.quarrel(), 4);
            x.lesson(0, 1, 1, 0);
            x.lesson(0, 1, 1, 0);
            due(x.quarrel(), 3);
            x.unteach(0);
            due(x.quarrel(), 2);
            x.unteach(1);
            due(x.quarrel(), 0);
        });
        terms(2, "of several sets the least number (bits)", () -> {
            TableArms x = withTwoKept();
            x.lesson(0, 1, 1, 0);
            x.lesson(0, 1, 0, 0);
            due(x.quarrel(), 1);
        });
        terms(2, "so that THE SET has an ORDER", () -> {
            // One order alone gives each of these ends: the first two orders, and the last two.
            for (int order : new int[] {0, 1, 94, 95}) {
                TableArms x = order < 2 ? with(CUP, 1, 0, CUP, 1, 3, CUP, 1, 7)
                        : with(LID, 1, 0, LID, 1, 3, LID, 1, 5, LID, 1, 5);
                x.keep();
                due(x.order(order), order % 2 == 0 ? 1 : 2);
                x.keep();
                x.lesson(0, 1, 1, 0);
                x.lesson(0, 1, 0, 0);
                x.lesson(0, 1, 0, 0);
                due(x.quarrel(), 1);
                x.unteach(0);
                due(x.fits(-1), 1);
                due(x.fits(0), order);
                due(x.quarrel(), 0);
            }
        });
        promise(21, "QUARREL: the set (bits; 0: there is none).", () -> {
            TableArms x = new TableArms();
            due(x.quarrel(), 0);
            TableArms never = with(CUP, 1, 0, CLOTH, 1, 5, LID, 1, 7);
            never.keep();
            never.move(0, 0, 3);
            never.move(0, 1, 4);
            never.keep();
            // No order moves both the cup and the cloth.
            for (int k = 0; k < 8; k++) {
                due(never.lesson(0, 1, 0, 0), k);
                due(never.quarrel(), (2 << k) - 1);
            }
            due(never.unteach(7), 1);
            due(never.quarrel(), 127);
            due(never.unteach(0), 1);
            due(never.quarrel(), 126);
        });
    }

    private static void plans() {
        terms(3, "PLAN of an ORDER: the fewest MOVES from THE TABLE on (to CELLS, INTO BOXES, each by some ARM), 0 to 2", () -> {
            int inBox = orderOf(ONE, CUP, IN, BOX);
            TableArms x = with(CUP, 1, 0, CLOTH, 1, 0, LID, 1, 0, BOX, 1, 7);
            due(x.plan(inBox, 0), NONE);
            due(x.plan(inBox, 1), NONE);
            x.move(0, 2, 5);
            due(x.plan(inBox, 0), 2);
            due(x.plan(inBox, 1), 16 + 1);
            x.move(0, 1, 6);
            due(x.plan(inBox, 0), 1);
            due(x.plan(inBox, 1), 11);
            x.move(0, 0, 11);
            due(x.plan(inBox, 0), 0);
            due(x.plan(inBox, 1), NONE);
        });
        terms(3, "each by some ARM", () -> {
            TableArms x = with(CUP, 1, 0, CLOTH, 1, 3);
            int put = orderOf(ONE, CUP, ON, CLOTH);
            x.reach(0, 1 << 0 | 1 << 5);
            x.reach(1, 1 << 5 | 1 << 3);
            due(x.plan(put, 0), 2);
            due(x.plan(put, 1), 5);
            x.reach(0, 1 << 0 | 1 << 6);
            due(x.plan(put, 0), NONE);
            x.reach(1, 1 << 0 | 1 << 3);
            due(x.plan(put, 0), 1);
            due(x.plan(put, 1), 3);
            x.reach(0, 0);
            x.reach(1, 0);
            due(x.plan(put, 0), NONE);
            x.reach(0, 1 << 0 | 1 << 3);
            due(x.plan(put, 0), 1);
        });
        terms(3, "behind which some THING of SORT a is AS TOLD (one)", () -> {
            TableArms x = with(CUP, 1, 0, CUP, 1, 5, CLOTH, 1, 4);
            due(x.plan(orderOf(ONE, CUP, BESIDE, CLOTH), 0), 0);
            TableArms y = with(CLOTH, 1, 4, CUP, 1, 4, CUP, 1, 7);
            due(y.plan(orderOf(ONE, CUP, ON, CLOTH), 0), 0);
            due(new TableArms().plan(orderOf(ONE, CUP, ON, CLOTH), 0), NONE);
        });
        terms(3, "or all are, and there is one (each).", () -> {
            int each = orderOf(EACH, CUP, ON, CLOTH);
            due(new TableArms().plan(each, 0), NONE);
            due(with(CLOTH, 1, 0).plan(each, 0), NONE);
            TableArms x = with(CLOTH, 1, 4, CUP, 1, 4, CUP, 1, 7, CLOTH, 1, 3);
            due(x.plan(each, 0), 1);
            due(x.plan(each, 1), 16 * 2 + 3);
            x.move(0, 2, 3);
            due(x.plan(each, 0), 0);
            x.thing(CUP, 1, 0);
            due(x.plan(each, 0), NONE);
            x.thing(CLOTH, 1, 1);
            due(x.plan(each, 0), 1);
        });
        promise(22, "PLAN of an ORDER's end: how many MOVES (what = 0), THE FIRST MOVE (1; NONE: none).", () -> {
            TableArms x = with(CLOTH, 1, 4, CUP, 1, 4);
            due(x.plan(orderOf(ONE, CUP, ON, CLOTH), 0), 0);
            due(x.plan(orderOf(ONE, CUP, ON, CLOTH), 1), NONE);
            due(x.plan(orderOf(ONE, CLOTH, ON, CUP), 0), 2);
            due(x.plan(orderOf(ONE, CLOTH, ON, CUP), 1), 16);
            x.keep();
            due(x.plan(orderOf(EACH, CLOTH, ON, CUP), 0), 2);
            due(x.same(0, NONE), 1);
        });
        promise(22, "BAD; NONE: more than 2.", () -> {
            TableArms x = with(CUP, 1, 0);
            for (int v : outside(95)) {
                due(x.plan(v, 0), BAD);
                due(x.plan(v, 1), BAD);
            }
            for (int v : outside(1)) {
                due(x.plan(0, v), BAD);
                due(x.plan(95, v), BAD);
            }
        });
        promise(22, "NONE: more than 2.", () -> {
            TableArms x = with(CUP, 1, 0, CUP, 1, 1, CUP, 1, 2, CLOTH, 1, 5, CLOTH, 1, 6, CLOTH, 1, 7);
            int each = orderOf(EACH, CUP, ON, CLOTH);
            due(x.plan(each, 0), NONE);
            due(x.plan(each, 1), NONE);
            x.move(0, 2, 5);
            due(x.plan(each, 0), 2);
            due(x.plan(each, 1), 6);
            x.move(0, 1, 6);
            due(x.plan(each, 0), 1);
            due(x.plan(each, 1), 7);
        });
    }

    private static void firstMoves() {
        String all = "THE FIRST MOVE: of all rows of so few MOVES that do the least first one, as a number: 16 times the"
                + " THING and to (0 to 7 a CELL, 8 and the number of the box).";
        terms(3, all, () -> {
            TableArms x = with(LID, 1, 0, CLOTH, 1, 1, CLOTH, 1, 2, CLOTH, 1, 3, BOX, 1, 4, CUP, 1, 5);
            due(x.plan(orderOf(ONE, CUP, IN, BOX), 1), 16 * 5 + 12);
            due(x.plan(orderOf(ONE, LID, IN, BOX), 1), 12);
            due(x.plan(orderOf(ONE, CUP, ON, LID), 1), 16 * 5);
            due(x.plan(orderOf(ONE, LID, ON, CUP), 1), 5);
            TableArms last = with(CUP, 1, 0, CLOTH, 1, 7, LID, 1, 1, LID, 1, 2, LID, 1, 3, BOX, 1, 4);
            due(last.plan(orderOf(ONE, CUP, IN, BOX), 1), 13);
            due(last.plan(orderOf(ONE, CUP, ON, CLOTH), 1), 7);
            TableArms first = with(BOX, 1, 6, CUP, 1, 0);
            due(first.plan(orderOf(ONE, CUP, IN, BOX), 1), 16 + 8);
        });
        terms(3, "of all rows of so few MOVES that do the least first one", () -> {
            // Either cup may go on either cloth; either cup may come beside, or the cloth beside a cup.
            TableArms x = with(CUP, 1, 0, CUP, 1, 4, CLOTH, 1, 7, CLOTH, 1, 6);
            due(x.plan(orderOf(ONE, CUP, ON, CLOTH), 1), 6);
            due(x.plan(orderOf(ONE, CUP, BESIDE, CLOTH), 1), 2);
            x.reach(0, 255 - 1);
            x.reach(1, 255 - 1);
            due(x.plan(orderOf(ONE, CUP, ON, CLOTH), 1), 16 + 6);
            x.reach(0, 255 - 1 - 16);
            x.reach(1, 255 - 1 - 16);
            due(x.plan(orderOf(ONE, CUP, BESIDE, CLOTH), 0), 1);
            due(x.plan(orderOf(ONE, CUP, BESIDE, CLOTH), 1), 16 * 2 + 1);
        });
        terms(3, "the least first one", () -> {
            // Two moves: the lid must leave the box, and any cell does but the cup's.
            TableArms x = with(CUP, 1, 0, LID, 1, 4, BOX, 1, 3);
            x.move(0, 1, 3);
            due(x.plan(orderOf(ONE, CUP, IN, BOX), 0), 2);
            due(x.plan(orderOf(ONE, CUP, IN, BOX), 1), 16 + 1);
            // The first of two may be the one that has no need of the other.
            TableArms each = with(CUP, 1, 5, CUP, 1, 4, CLOTH, 1, 0, CLOTH, 1, 1);
            due(each.plan(orderOf(EACH, CUP, ON, CLOTH), 0), 2);
            due(each.plan(orderOf(EACH, CUP, ON, CLOTH), 1), 0);
        });
    }
}
