/** Sheets: "Terms" 1, promises 1 to 5 and 34, the findings. */
final class EdgesOfSheets extends Edge {
    static void all() {
        newObject();
        manySheets();
        newSheets();
        setItems();
        copies();
        drops();
        statuses();
    }

    private static void newObject() {
        promise(1, "All as at first.", () -> {
            TableArms x = new TableArms();
            for (int what = 0; what < 8; what++) {
                due(x.count(what), 0);
            }
            due(x.status(), 0);
            due(x.fault(), 0);
            due(x.broken(), 0);
            due(x.quarrel(), 0);
            due(x.question(0), NONE);
            due(x.question(1), 0);
            due(x.fits(-1), 96);
            dueTrace(x);
            for (int cell = 0; cell < 8; cell++) {
                due(x.pile(cell, -1), 0);
            }
            due(x.nevers(), 0);
            due(x.reach(0, 0), 255);
            due(x.reach(1, 0), 255);
            due(x.keep(), 0);
        });
        promise(1, "All as at first.", () -> {
            TableArms used = with(BOX, 1, 0, LID, 1, 0);
            used.sheet(0, BYTES, 3);
            used.reach(0, 1);
            used.keep();
            used.lesson(0, 0, 0, 0);
            used.ask(0, 1);
            used.as(0, 1);
            read(used, "most 0 0; never");
            used.feed(32, 1);
            TableArms x = new TableArms();
            for (int what = 0; what < 8; what++) {
                due(x.count(what), 0);
            }
            due(x.status(), 0);
            due(x.fault(), 0);
            due(x.reach(0, 0), 255);
            dueTrace(x);
            due(used.status(), 3);
            due(used.fault(), 1);
            due(used.count(1), 2);
        });
    }

    private static void manySheets() {
        terms(1, "SHEETS 0 .. 7 are missing (at first)", () -> {
            for (int sheet = 0; sheet < 8; sheet++) {
                TableArms x = new TableArms();
                due(x.set(sheet, 0, 0), NULL);
                due(x.drop(sheet), NULL);
                due(x.copy(sheet, 0, sheet, 0, 0), NULL);
                due(x.lessons(sheet, 0, 1), NULL);
                due(x.ways(sheet, 0, 1, 1), NULL);
                due(x.count(0), 0);
            }
        });
        terms(1, "SHEETS 0 .. 7", () -> {
            TableArms x = new TableArms();
            for (int sheet = 0; sheet < 8; sheet++) {
                due(x.sheet(sheet, INTS, sheet), sheet);
                due(x.count(0), sheet + 1);
            }
            for (int sheet : outside(7)) {
                due(x.sheet(sheet, INTS, 1), BAD);
                due(x.set(sheet, 0, 0), BAD);
                due(x.copy(sheet, 0, 0, 0, 0), BAD);
                due(x.copy(0, 0, sheet, 0, 0), BAD);
                due(x.drop(sheet), BAD);
                due(x.lessons(sheet, 0, 1), BAD);
                due(x.ways(sheet, 0, 1, 1), BAD);
            }
            due(x.count(0), 8);
            for (int sheet = 0; sheet < 8; sheet++) {
                due(x.drop(sheet), sheet);
            }
        });
        terms(1, "have a LANE (0 bytes, 1 shorts, 2 ints)", () -> {
            TableArms x = new TableArms();
            int[] held = {(byte) 0x12345678, (short) 0x12345678, 0x12345678};
            for (int lane = 0; lane < 3; lane++) {
                due(x.sheet(lane, lane, 1), 1);
                due(x.set(lane, 0, 0x12345678), held[lane]);
            }
            for (int lane : outside(2)) {
                due(x.sheet(3, lane, 1), BAD);
            }
            due(x.count(0), 3);
        });
        terms(1, "0 to 40 ITEMS", () -> {
            for (int lane = 0; lane < 3; lane++) {
                TableArms x = new TableArms();
                due(x.sheet(0, lane, 0), 0);
                due(x.set(0, 0, 0), PLACE);
                due(x.sheet(1, lane, 40), 40);
                due(x.set(1, 39, 9), 9);
                due(x.set(1, 40, 9), PLACE);
                due(x.sheet(2, lane, 41), BAD);
                due(x.sheet(2, lane, -1), SIZE);
                due(x.count(0), 2);
            }
        });
        terms(1, "0 at first", () -> {
            for (int lane = 0; lane < 3; lane++) {
                TableArms x = new TableArms();
                x.sheet(0, lane, 40);
                dueItems(x, 0, lane, new int[40]);
            }
        });
    }

    private static void newSheets() {
        promise(2, "A SHEET of a LANE with n ITEMS, in place of what is there: n.", () -> {
            TableArms x = new TableArms();
            for (int n = 0; n <= 40; n++) {
                due(x.sheet(n % 8, n % 3, n), n);
                due(x.set(n % 8, n, 0), PLACE);
                due(x.set(n % 8, n - 1, 1), n == 0 ? PLACE : 1);
            }
            due(x.count(0), 8);
        });
        promise(2, "in place of what is there", () -> {
            TableArms x = new TableArms();
            fill(x, 1, BYTES, 1, 2, 3, 4);
            due(x.sheet(1, BYTES, 2), 2);
            dueItems(x, 1, BYTES, 0, 0);
            due(x.sheet(1, BYTES, 6), 6);
            dueItems(x, 1, BYTES, 0, 0, 0, 0, 0, 0);
            due(x.sheet(1, SHORTS, 3), 3);
            due(x.set(1, 0, 300), 300);
            due(x.sheet(1, SHORTS, 0), 0);
            due(x.count(0), 1);
            due(x.drop(1), 0);
        });
        promise(2, "A SHEET of a LANE with n ITEMS, in place of what is there", () -> {
            TableArms x = new TableArms();
            for (int sheet = 2; sheet < 5; sheet++) {
                x.sheet(sheet, BYTES, 40);
                x.set(sheet, 0, 3);
                x.set(sheet, 39, 4);
            }
            x.sheet(3, BYTES, 40);
            int[] ends = new int[40];
            ends[0] = 3;
            ends[39] = 4;
            dueItems(x, 2, BYTES, ends);
            dueItems(x, 4, BYTES, ends);
        });
        promise(2, "BAD: SHEET, LANE, n above 40; SIZE.", () -> {
            TableArms x = new TableArms();
            for (int sheet : outside(7)) {
                due(x.sheet(sheet, BYTES, 1), BAD);
            }
        });
        promise(2, "LANE, n above 40", () -> {
            TableArms x = new TableArms();
            for (int lane : outside(2)) {
                due(x.sheet(0, lane, 1), BAD);
            }
            due(x.count(0), 0);
        });
        promise(2, "n above 40", () -> {
            TableArms x = new TableArms();
            due(x.sheet(0, BYTES, 40), 40);
            due(x.sheet(0, BYTES, 41), BAD);
            due(x.sheet(0, BYTES, MAX), BAD);
            due(x.drop(0), 40);
        });
        promise(2, "SIZE", () -> {
            TableArms x = new TableArms();
            due(x.sheet(0, BYTES, 0), 0);
            due(x.sheet(0, BYTES, -1), SIZE);
            due(x.status(), 4);
            due(x.sheet(1, BYTES, MIN), SIZE);
            due(x.count(0), 1);
            due(x.drop(0), 0);
        });
    }

    private static void dueSet(int lane, int... pairs) {
        TableArms x = new TableArms();
        x.sheet(0, lane, 1);
        for (int k = 0; k + 1 < pairs.length; k += 2) {
            dueOf("set(0, 0, " + pairs[k] + ")", x.set(0, 0, pairs[k]), pairs[k + 1]);
        }
    }

    private static void setItems() {
        String bits = "ITEM i becomes v, its lowest bits, as many as the LANE has: what it is then.";
        promise(3, bits, () -> dueSet(BYTES, 0, 0, 127, 127, 128, -128, 129, -127, 255, -1, 256, 0, 257, 1, 383, 127,
                384, -128, -1, -1, -128, -128, -129, 127, -256, 0, -257, -1, 65535, -1, 65536, 0, MAX, -1, MIN, 0,
                MIN + 127, 127, MIN + 128, -128));
        promise(3, bits, () -> dueSet(SHORTS, 0, 0, 127, 127, 128, 128, 256, 256, 32767, 32767, 32768, -32768,
                32769, -32767, 65535, -1, 65536, 0, 65537, 1, 98303, 32767, 98304, -32768, -1, -1, -32768, -32768,
                -32769, 32767, -65536, 0, -65537, -1, MAX, -1, MIN, 0, MIN + 32767, 32767, MIN + 32768, -32768));
        promise(3, bits, () -> dueSet(INTS, 0, 0, 128, 128, 32768, 32768, 65536, 65536, MAX, MAX, MIN, MIN, -1, -1,
                -32769, -32769));
        promise(3, "ITEM i becomes v, its lowest bits", () -> {
            TableArms x = new TableArms();
            fill(x, 0, BYTES, 256 + 5, -251, 1 << 31 | 7);
            dueItems(x, 0, BYTES, 5, 5, 7);
            fill(x, 0, SHORTS, 65536 + 6, -65530, 6);
            dueItems(x, 0, SHORTS, 6, 6, 6);
            fill(x, 0, SHORTS, 256 + 6, 0);
            due(x.ways(0, 0, 1, 1), BAD);
            fill(x, 0, INTS, 65536 + 6, 0);
            due(x.ways(0, 0, 1, 1), BAD);
            fill(x, 0, BYTES, 255, 0);
            due(x.ways(0, 0, 1, 1), BAD);
        });
        promise(3, "ITEM i becomes v", () -> {
            TableArms x = new TableArms();
            fill(x, 0, INTS, 1, 2, 3);
            due(x.set(0, 0, 7), 7);
            due(x.set(0, 2, 6), 6);
            dueItems(x, 0, INTS, 7, 2, 6);
        });
        promise(3, "BAD: SHEET", () -> {
            TableArms x = new TableArms();
            for (int sheet : outside(7)) {
                due(x.set(sheet, 0, 0), BAD);
            }
        });
        promise(3, "NULL", () -> {
            TableArms x = new TableArms();
            x.sheet(0, INTS, 1);
            due(x.set(1, 0, 0), NULL);
            due(x.status(), 1);
            due(x.set(7, -1, 0), NULL);
            x.drop(0);
            due(x.set(0, 0, 0), NULL);
        });
        promise(3, "PLACE", () -> {
            TableArms x = new TableArms();
            x.sheet(0, INTS, 3);
            x.sheet(1, INTS, 0);
            for (int i : outside(2)) {
                due(x.set(0, i, 5), PLACE);
                due(x.status(), 2);
            }
            dueItems(x, 0, INTS, 0, 0, 0);
            due(x.set(1, 0, 0), PLACE);
            due(x.set(1, -1, 0), PLACE);
            due(x.set(0, 40, 0), PLACE);
        });
    }

    private static TableArms rowOfFive() {
        TableArms x = new TableArms();
        fill(x, 0, BYTES, 1, 2, 3, 4, 5);
        return x;
    }

    private static void copies() {
        String all = "n ITEMS of a from i on come to b from j on, as they were ahead: n.";
        promise(4, all, () -> {
            TableArms x = rowOfFive();
            x.sheet(1, BYTES, 7);
            due(x.copy(0, 1, 1, 2, 3), 3);
            dueItems(x, 1, BYTES, 0, 0, 2, 3, 4, 0, 0);
            dueItems(x, 0, BYTES, 1, 2, 3, 4, 5);
            due(x.copy(0, 0, 1, 2, 5), 5);
            dueItems(x, 1, BYTES, 0, 0, 1, 2, 3, 4, 5);
            due(x.copy(1, 6, 0, 0, 1), 1);
            dueItems(x, 0, BYTES, 5, 2, 3, 4, 5);
        });
        promise(4, "as they were ahead", () -> {
            TableArms x = rowOfFive();
            due(x.copy(0, 0, 0, 1, 4), 4);
            dueItems(x, 0, BYTES, 1, 1, 2, 3, 4);
            x = rowOfFive();
            due(x.copy(0, 1, 0, 0, 4), 4);
            dueItems(x, 0, BYTES, 2, 3, 4, 5, 5);
            x = rowOfFive();
            due(x.copy(0, 0, 0, 0, 5), 5);
            dueItems(x, 0, BYTES, 1, 2, 3, 4, 5);
        });
        promise(4, "n ITEMS of a", () -> {
            TableArms x = rowOfFive();
            x.sheet(1, BYTES, 0);
            due(x.copy(0, 0, 1, 0, 0), 0);
            due(x.copy(0, 5, 1, 0, 0), 0);
            due(x.copy(1, 0, 0, 5, 0), 0);
            due(x.copy(1, 0, 1, 0, 0), 0);
            dueItems(x, 0, BYTES, 1, 2, 3, 4, 5);
        });
        promise(4, "n ITEMS of a from i on come to b from j on", () -> {
            TableArms x = new TableArms();
            int[] row = new int[40];
            for (int k = 0; k < 40; k++) {
                row[k] = (k * 3 + 1) % 8;
            }
            fill(x, 3, SHORTS, row);
            x.sheet(5, SHORTS, 40);
            due(x.copy(3, 0, 5, 0, 40), 40);
            dueItems(x, 5, SHORTS, row);
            due(x.copy(3, 39, 5, 0, 1), 1);
            due(x.copy(3, 0, 5, 39, 1), 1);
            row[0] = (39 * 3 + 1) % 8;
            row[39] = 1;
            dueItems(x, 5, SHORTS, row);
        });
        promise(4, "come to b from j on", () -> {
            TableArms x = new TableArms();
            for (int sheet = 0; sheet < 4; sheet++) {
                x.sheet(sheet, INTS, 40);
            }
            x.set(3, 0, 6);
            x.set(3, 39, 6);
            due(x.copy(3, 0, 1, 0, 40), 40);
            dueItems(x, 0, INTS, new int[40]);
            dueItems(x, 2, INTS, new int[40]);
        });
        copyRefusals();
    }

    private static void copyRefusals() {
        promise(4, "BAD: SHEETS", () -> {
            TableArms x = rowOfFive();
            for (int sheet : outside(7)) {
                due(x.copy(sheet, 0, 0, 0, 1), BAD);
                due(x.copy(0, 0, sheet, 0, 1), BAD);
                due(x.copy(sheet, 0, sheet, 0, 1), BAD);
            }
        });
        promise(4, "NULL", () -> {
            TableArms x = rowOfFive();
            due(x.copy(1, 0, 0, 0, 0), NULL);
            due(x.copy(0, 0, 1, 0, 0), NULL);
            due(x.copy(1, 0, 1, 0, 0), NULL);
            due(x.copy(1, 0, 2, 0, 1), NULL);
            due(x.status(), 1);
        });
        promise(4, "STORE", () -> {
            TableArms x = new TableArms();
            for (int lane = 0; lane < 3; lane++) {
                x.sheet(lane, lane, 2);
                x.sheet(lane + 3, lane, 2);
            }
            for (int a = 0; a < 6; a++) {
                for (int b = 0; b < 6; b++) {
                    due(x.copy(a, 0, b, 0, 2), a % 3 == b % 3 ? 2 : STORE);
                    due(x.status(), a % 3 == b % 3 ? 0 : 5);
                    due(x.copy(a, 0, b, 0, 0), a % 3 == b % 3 ? 0 : STORE);
                }
            }
        });
        promise(4, "PLACE (i, j, n below 0, or beyond an end).", () -> {
            TableArms x = rowOfFive();
            fill(x, 1, BYTES, 6, 7);
            int[][] wrong = {{-1, 0, 1}, {0, -1, 1}, {0, 0, -1}, {-1, 0, 0}, {0, -1, 0}, {MIN, 0, 1}, {0, MIN, 1},
                {0, 0, MIN}, {5, 0, 1}, {4, 0, 2}, {0, 2, 1}, {0, 1, 2}, {0, 0, 3}, {6, 0, 0}, {0, 3, 0}, {MAX, 0, 0},
                {0, MAX, 0}, {MAX, 0, 1}, {0, MAX, 1}, {0, 0, MAX}, {1, 1, MAX}, {MAX, MAX, MAX}, {MIN, MIN, MIN},
                {MAX, 0, 2}, {-1, 0, MAX}, {MIN, 0, MAX}, {-1, -1, 1}, {1, 0, -1}, {5, 2, -1}};
            for (int[] w : wrong) {
                dueOf("copy(0, " + w[0] + ", 1, " + w[1] + ", " + w[2] + ")", x.copy(0, w[0], 1, w[1], w[2]), PLACE);
                due(x.status(), 2);
            }
            dueItems(x, 0, BYTES, 1, 2, 3, 4, 5);
            dueItems(x, 1, BYTES, 6, 7);
            due(x.copy(0, 3, 1, 0, 2), 2);
            dueItems(x, 1, BYTES, 4, 5);
        });
        promise(4, "or beyond an end", () -> {
            TableArms x = new TableArms();
            x.sheet(0, INTS, 40);
            x.sheet(1, INTS, 40);
            due(x.copy(0, 0, 1, 0, 40), 40);
            due(x.copy(0, 0, 1, 0, 41), PLACE);
            due(x.copy(0, 1, 1, 0, 40), PLACE);
            due(x.copy(0, 0, 1, 1, 40), PLACE);
            due(x.copy(0, 40, 1, 40, 0), 0);
            due(x.copy(0, 41, 1, 40, 0), PLACE);
            due(x.copy(0, 40, 1, 41, 0), PLACE);
        });
    }

    private static void drops() {
        promise(5, "A SHEET is missing from now on: how many ITEMS it had.", () -> {
            TableArms x = new TableArms();
            x.sheet(0, BYTES, 0);
            x.sheet(7, INTS, 40);
            due(x.drop(0), 0);
            due(x.count(0), 1);
            due(x.drop(7), 40);
            due(x.count(0), 0);
            due(x.set(7, 0, 0), NULL);
            due(x.copy(7, 0, 7, 0, 0), NULL);
        });
        promise(5, "A SHEET is missing from now on", () -> {
            TableArms x = rowOfFive();
            fill(x, 1, BYTES, 6, 6);
            due(x.drop(0), 5);
            dueItems(x, 1, BYTES, 6, 6);
            due(x.sheet(0, BYTES, 5), 5);
            dueItems(x, 0, BYTES, 0, 0, 0, 0, 0);
        });
        promise(5, "BAD", () -> {
            TableArms x = new TableArms();
            for (int sheet : outside(7)) {
                due(x.drop(sheet), BAD);
            }
        });
        promise(5, "NULL", () -> {
            TableArms x = new TableArms();
            due(x.drop(0), NULL);
            due(x.status(), 1);
            x.sheet(0, BYTES, 3);
            due(x.drop(0), 3);
            due(x.status(), 0);
            due(x.drop(0), NULL);
            due(x.status(), 1);
        });
    }

    private static void statuses() {
        promise(34, "Of the latest call with a SHEET, or as(), that was not BAD, STATE, FULL: the number of its FINDING", () -> {
            TableArms x = with(CUP, 1, 0);
            x.sheet(0, BYTES, 4);
            x.sheet(1, INTS, 4);
            int[] findings = {x.drop(5), x.status(), x.set(0, 4, 0), x.status(), x.as(0, 2), x.status(),
                x.sheet(0, BYTES, -1), x.status(), x.copy(0, 0, 1, 0, 1), x.status()};
            int[] want = {NULL, 1, PLACE, 2, KIND, 3, SIZE, 4, STORE, 5};
            for (int k = 0; k < want.length; k++) {
                due(findings[k], want[k]);
            }
        });
        promise(34, "that was not BAD, STATE, FULL", () -> {
            TableArms x = with(CUP, 1, 0);
            x.sheet(0, BYTES, 2);
            x.set(0, 1, 8);
            x.as(0, 2);
            due(x.sheet(8, 0, 1), BAD);
            due(x.status(), 3);
            due(x.set(8, 0, 1), BAD);
            due(x.status(), 3);
            due(x.copy(8, 0, 0, 0, 1), BAD);
            due(x.status(), 3);
            due(x.drop(8), BAD);
            due(x.status(), 3);
            due(x.lessons(0, 0, 0), BAD);
            due(x.status(), 3);
            due(x.ways(0, 0, 0, 1), BAD);
            due(x.status(), 3);
            due(x.ways(0, 0, 1, 1), BAD);
            due(x.status(), 3);
            due(x.as(1, 0), BAD);
            due(x.status(), 3);
        });
        promise(34, "0: it had none, or there was none.", () -> {
            TableArms x = with(CUP, 1, 0);
            due(x.status(), 0);
            x.as(0, 2);
            due(x.sheet(0, BYTES, 4), 4);
            due(x.status(), 0);
            x.as(0, 2);
            due(x.set(0, 0, 1), 1);
            due(x.status(), 0);
            x.as(0, 2);
            due(x.copy(0, 0, 0, 0, 0), 0);
            due(x.status(), 0);
            x.as(0, 2);
            due(x.lessons(0, 0, 1), 0);
            due(x.status(), 0);
            x.as(0, 2);
            due(x.ways(0, 0, 1, 1), 0);
            due(x.status(), 0);
            x.as(0, 2);
            due(x.ways(0, 1, 1, 1), NONE);
            due(x.status(), 0);
            x.as(0, 2);
            due(x.as(0, 1), 1);
            due(x.status(), 0);
            x.as(0, 2);
            due(x.drop(0), 4);
            due(x.status(), 0);
        });
        promise(34, "Of the latest call with a SHEET, or as()", () -> {
            TableArms x = with(CUP, 1, 0, BOX, 1, 1);
            x.drop(0);
            x.thing(LID, 1, 2);
            x.where(0, 0);
            x.pile(0, 0);
            x.reach(0, 255);
            x.move(0, 0, 9);
            x.keep();
            x.back(0);
            x.same(0, NONE);
            x.order(0);
            x.lesson(0, 0, 0, 0);
            x.unteach(0);
            x.fits(0);
            x.barred(0, 0);
            x.question(0);
            x.quarrel();
            x.plan(0, 0);
            x.feed(0, 1);
            x.nevers();
            x.fault();
            x.broken();
            x.let(0, 0, 0);
            x.kind(0);
            x.ask(0, 0);
            x.trace(0);
            x.count(0);
            due(x.status(), 1);
            due(x.status(), 1);
        });
    }
}
