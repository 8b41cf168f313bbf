import java.util.ArrayList;
import java.util.List;
import java.util.function.Supplier;
import java.util.function.ToIntFunction;

/** What is refused or found: the first of several, and that it changes nothing but status(). */
final class EdgesOfRefusals extends Edge {
    private static final String NOTHING = "What is refused, or found, changes nothing but status().";
    private static final String FIRST = "Refusals are answers, the first of these that fits: BAD (a number is not as told;"
            + " there is no such thing), STATE (as told), FULL (as told), then FINDINGS, of several the first in time";

    static void all() {
        numbers();
        firstOfSeveral();
        sheetsKeepTheirs();
        tableKeepsItsOwn();
        lessonsKeepTheirs();
        neversKeepTheirs();
        fullKeepsItsOwn();
        askingChangesNothing();
    }

    private static void numbers() {
        terms(0, "-1000010 less 1 NULL (a SHEET that is missing), 2 PLACE (no such place of a SHEET), 3 KIND (a THING that"
                + " is not that), 4 SIZE (fewer than none), 5 STORE (SHEETS of two LANES).", () -> {
            TableArms x = with(CUP, 1, 0);
            due(x.drop(0), -1000011);
            due(x.sheet(0, 0, 1), 1);
            due(x.set(0, 1, 0), -1000012);
            due(x.as(0, 5), -1000013);
            due(x.sheet(0, 0, -1), -1000014);
            due(x.sheet(1, 1, 1), 1);
            due(x.copy(0, 0, 1, 0, 1), -1000015);
        });
        terms(0, "Refusals are answers", () -> {
            due(TableArms.NONE, -1000000);
            due(TableArms.BAD, -1000001);
            due(TableArms.STATE, -1000002);
            due(TableArms.FULL, -1000003);
        });
        terms(0, "Numbers go from 0 on.", () -> {
            TableArms x = new TableArms();
            due(x.thing(CUP, 1, 0), 0);
            due(x.keep(), 0);
            due(x.lesson(0, 0, 0, 0), 0);
            due(x.sheet(0, 0, 1), 1);
            due(x.set(0, 0, 1), 1);
            due(x.pile(0, 0), 0);
            due(x.fits(0), orderOf(EACH, CLOTH, ON, CUP));
            due(x.ask(0, 1), 100);
            due(x.trace(0), 21);
            due(read(x, "#"), -1000100);
        });
    }

    private static void firstOfSeveral() {
        terms(0, FIRST, () -> {
            TableArms x = some();
            due(x.sheet(8, 0, -1), BAD);
            due(x.sheet(0, 3, -1), BAD);
            due(x.sheet(-1, -1, MIN), BAD);
            due(x.set(8, -1, 0), BAD);
            due(x.set(5, -1, 0), NULL);
            due(x.set(5, 99, 0), NULL);
        });
        terms(0, "of several the first in time", () -> {
            TableArms x = some();
            due(x.copy(8, -1, 5, -1, -1), BAD);
            due(x.copy(5, -1, 8, -1, -1), BAD);
            due(x.copy(0, -1, 5, -1, -1), NULL);
            due(x.copy(5, -1, 0, -1, -1), NULL);
            due(x.copy(0, -1, 1, -1, -1), STORE);
            due(x.copy(0, 99, 1, 0, 1), STORE);
            due(x.copy(0, -1, 0, 0, 1), PLACE);
        });
        terms(0, "BAD (a number is not as told; there is no such thing), STATE (as told)", () -> {
            TableArms x = some();
            // Thing 0 is covered, and arm 0 does not reach cell 3: each of these alone is STATE.
            due(x.move(0, 0, 3), STATE);
            due(x.move(2, 0, 3), BAD);
            due(x.move(0, 5, 3), BAD);
            due(x.move(0, 0, 14), BAD);
            due(x.move(0, 0, 8), BAD);
            due(x.move(0, 0, 13), BAD);
            due(x.let(0, 0, 3), STATE);
            due(x.let(2, 0, 3), BAD);
            due(x.let(0, 0, 8), BAD);
            due(x.unteach(1), STATE);
            due(x.unteach(3), BAD);
        });
        terms(0, "FULL (as told)", () -> {
            TableArms x = full();
            due(x.thing(0, 1, 0), FULL);
            due(x.thing(4, 1, 0), BAD);
            due(x.thing(0, 0, 0), BAD);
            due(x.thing(0, 21, 0), BAD);
            due(x.thing(0, 1, 8), BAD);
            due(x.lesson(0, 0, 0, 0), FULL);
            due(x.lesson(8, 0, 0, 0), BAD);
            due(x.lesson(0, -1, 0, 0), BAD);
            due(x.lesson(0, 0, 2, 0), BAD);
            due(x.lesson(0, 0, 0, 10), BAD);
            due(x.feed(0, 1), FULL);
            due(x.feed(0, 0), BAD);
            due(x.feed(0, 9), BAD);
            due(x.keep(), FULL);
        });
        terms(0, "then FINDINGS", () -> {
            TableArms x = full();
            due(x.lessons(8, -1, 0), BAD);
            due(x.lessons(5, -1, 0), BAD);
            due(x.lessons(5, -1, 5), BAD);
            due(x.lessons(5, -1, 1), NULL);
            due(x.lessons(0, -1, 5), BAD);
            due(x.lessons(0, -1, 1), PLACE);
            due(x.ways(8, -1, 0, 13), BAD);
            due(x.ways(5, -1, 13, 1), BAD);
            due(x.ways(5, -1, 1, 0), BAD);
            due(x.ways(5, -1, 1, 1), NULL);
            due(x.ways(0, -1, 13, 1), BAD);
            due(x.ways(0, -1, 1, 1), PLACE);
            due(x.as(6, 1), BAD);
            due(x.as(0, 6), BAD);
            due(x.as(0, 2), KIND);
        });
    }

    /** Some of all there can be: five things, a shut box, a cloth in the other; status 3, fault 2. */
    private static TableArms some() {
        TableArms x = with(CUP, 3, 0, BOX, 5, 1, LID, 2, 2, CLOTH, 4, 0, BOX, 6, 6);
        x.reach(1, 127);
        x.keep();
        x.move(0, 2, 1);
        x.keep();
        x.move(0, 3, 12);
        x.keep();
        x.move(0, 3, 0);
        x.reach(0, 247);
        x.lesson(0, 1, 0, 3);
        x.lesson(1, 2, 1, 4);
        x.lesson(0, 2, 0, 5);
        x.unteach(1);
        fill(x, 0, BYTES, 0, 1, 0, 3, 2, 0, 1, 6);
        fill(x, 1, SHORTS, 7, 6, 5);
        x.sheet(2, INTS, 0);
        fill(x, 3, INTS, 8, 8);
        read(x, "never cup on cloth;most 0 5;");
        read(x, "most 9 9;");
        feedText(x, "most 9");
        x.ask(1, 1);
        x.as(0, 3);
        return x;
    }

    /** All there can be, each at its most; status 3. */
    private static TableArms full() {
        TableArms x = with(CUP, 20, 0, BOX, 20, 1, LID, 20, 2, CLOTH, 20, 0, BOX, 20, 6, LID, 1, 6);
        for (int k = 0; k < 8; k++) {
            x.move(0, 2, k);
            x.keep();
        }
        for (int k = 0; k < 8; k++) {
            x.lesson(k, 7 - k, k % 2, k);
        }
        for (int sheet = 0; sheet < 8; sheet++) {
            if (sheet != 5) {
                x.sheet(sheet, sheet % 3, 40);
            }
        }
        read(x, "most 0 1;".repeat(16));
        read(x, "never");
        for (int k = 0; k < 37; k++) {
            x.feed(0x2020202020202020L, 8);
        }
        x.feed(0x2020203BL, 4);
        x.ask(0, 0);
        x.as(0, 3);
        return x;
    }

    /** All that calls can tell of an object, but for status(); it is of no use behind that. */
    private static List<Integer> pictureOf(TableArms x) {
        List<Integer> all = new ArrayList<>();
        for (int k = 0; k < 8; k++) {
            all.add(x.count(k));
            all.add(x.trace(k));
            all.add(x.pile(k, -1));
        }
        all.add(x.fault());
        all.add(x.broken());
        all.add(x.question(0));
        all.add(x.question(1));
        all.add(x.quarrel());
        for (int i = -1; i < 10; i++) {
            all.add(x.fits(i));
            all.add(x.barred(9 * i + 9, 0));
            all.add(x.barred(9 * i + 9, 1));
        }
        addPlaces(x, all);
        for (int k = 0; k < 8; k++) {
            all.add(x.same(k, TableArms.NONE));
            if (x.back(k) == 1) {
                addPlaces(x, all);
            }
        }
        all.add(x.reach(0, 255));
        all.add(x.reach(1, 255));
        for (int sheet = 0; sheet < 8; sheet++) {
            for (int i = 0; i < 7; i++) {
                all.add(x.ways(sheet, i, 1, 1));
            }
            all.add(x.set(sheet, 0, 70000));
            all.add(x.drop(sheet));
        }
        all.add(x.nevers());
        all.add(x.fault());
        return all;
    }

    private static void addPlaces(TableArms x, List<Integer> all) {
        for (int thing = 0; thing < 6; thing++) {
            all.add(x.where(thing, 2));
            all.add(x.where(thing, 3));
            all.add(x.where(thing, 4));
        }
    }

    private static void dueNothing(Supplier<TableArms> scene, String call, ToIntFunction<TableArms> refused, int want) {
        TableArms x = scene.get();
        int statusBefore = x.status();
        dueOf(call, refused.applyAsInt(x), want);
        boolean found = want < -1000010 && want > -1000100;
        dueOf("status() behind " + call, x.status(), found ? -1000010 - want : statusBefore);
        dueOf("status() before " + call, statusBefore, 3);
        holds(pictureOf(x).equals(pictureOf(scene.get())), call + " changes nothing");
    }

    private static void refusedOnSome(String call, ToIntFunction<TableArms> refused, int want) {
        dueNothing(EdgesOfRefusals::some, call, refused, want);
    }

    private static void refusedOnFull(String call, ToIntFunction<TableArms> refused, int want) {
        dueNothing(EdgesOfRefusals::full, call, refused, want);
    }

    private static void sheetsKeepTheirs() {
        terms(0, NOTHING, () -> {
            refusedOnSome("sheet(8, 0, 1)", x -> x.sheet(8, 0, 1), BAD);
            refusedOnSome("sheet(0, 3, 1)", x -> x.sheet(0, 3, 1), BAD);
            refusedOnSome("sheet(0, 0, 41)", x -> x.sheet(0, 0, 41), BAD);
            refusedOnSome("sheet(0, 1, -1)", x -> x.sheet(0, 1, -1), SIZE);
            refusedOnSome("sheet(5, 1, -1)", x -> x.sheet(5, 1, -1), SIZE);
            refusedOnSome("set(8, 0, 5)", x -> x.set(8, 0, 5), BAD);
            refusedOnSome("set(5, 0, 5)", x -> x.set(5, 0, 5), NULL);
            refusedOnSome("set(0, 8, 5)", x -> x.set(0, 8, 5), PLACE);
            refusedOnSome("set(0, -1, 5)", x -> x.set(0, -1, 5), PLACE);
            refusedOnSome("set(1, 3, 5)", x -> x.set(1, 3, 5), PLACE);
            refusedOnSome("set(2, 0, 5)", x -> x.set(2, 0, 5), PLACE);
            refusedOnSome("drop(-1)", x -> x.drop(-1), BAD);
            refusedOnSome("drop(5)", x -> x.drop(5), NULL);
        });
        terms(0, NOTHING, () -> {
            refusedOnSome("copy(0, 0, 8, 0, 1)", x -> x.copy(0, 0, 8, 0, 1), BAD);
            refusedOnSome("copy(0, 0, 5, 0, 1)", x -> x.copy(0, 0, 5, 0, 1), NULL);
            refusedOnSome("copy(5, 0, 0, 0, 1)", x -> x.copy(5, 0, 0, 0, 1), NULL);
            refusedOnSome("copy(0, 0, 1, 0, 1)", x -> x.copy(0, 0, 1, 0, 1), STORE);
            refusedOnSome("copy(1, 0, 0, 0, 1)", x -> x.copy(1, 0, 0, 0, 1), STORE);
            refusedOnSome("copy(0, 0, 0, 1, 8)", x -> x.copy(0, 0, 0, 1, 8), PLACE);
            refusedOnSome("copy(0, 1, 0, 0, 8)", x -> x.copy(0, 1, 0, 0, 8), PLACE);
            refusedOnSome("copy(1, 0, 1, 2, 2)", x -> x.copy(1, 0, 1, 2, 2), PLACE);
            refusedOnSome("copy(0, 1, 0, 3, -1)", x -> x.copy(0, 1, 0, 3, -1), PLACE);
            refusedOnSome("copy(3, 0, 2, 0, 1)", x -> x.copy(3, 0, 2, 0, 1), PLACE);
            refusedOnSome("ways(0, 0, 0, 1)", x -> x.ways(0, 0, 0, 1), BAD);
            refusedOnSome("ways(5, 0, 1, 1)", x -> x.ways(5, 0, 1, 1), NULL);
            refusedOnSome("ways(0, 7, 1, 1)", x -> x.ways(0, 7, 1, 1), PLACE);
            refusedOnSome("ways(3, 0, 1, 1)", x -> x.ways(3, 0, 1, 1), BAD);
        });
    }

    private static void tableKeepsItsOwn() {
        terms(0, NOTHING, () -> {
            refusedOnSome("thing(4, 1, 0)", x -> x.thing(4, 1, 0), BAD);
            refusedOnSome("thing(0, 0, 0)", x -> x.thing(0, 0, 0), BAD);
            refusedOnSome("thing(0, 21, 0)", x -> x.thing(0, 21, 0), BAD);
            refusedOnSome("thing(0, 1, 8)", x -> x.thing(0, 1, 8), BAD);
            refusedOnSome("thing(0, 1, -1)", x -> x.thing(0, 1, -1), BAD);
            refusedOnSome("where(5, 0)", x -> x.where(5, 0), BAD);
            refusedOnSome("where(0, 7)", x -> x.where(0, 7), BAD);
            refusedOnSome("pile(8, 0)", x -> x.pile(8, 0), BAD);
            refusedOnSome("pile(0, -2)", x -> x.pile(0, -2), BAD);
            refusedOnSome("reach(2, 0)", x -> x.reach(2, 0), BAD);
            refusedOnSome("reach(0, 256)", x -> x.reach(0, 256), BAD);
            refusedOnSome("reach(1, -1)", x -> x.reach(1, -1), BAD);
            refusedOnSome("back(3)", x -> x.back(3), BAD);
            refusedOnSome("back(-1)", x -> x.back(-1), BAD);
            refusedOnSome("same(3, 0)", x -> x.same(3, 0), BAD);
        });
        terms(0, NOTHING, () -> {
            refusedOnSome("move(2, 3, 5)", x -> x.move(2, 3, 5), BAD);
            refusedOnSome("move(0, 5, 5)", x -> x.move(0, 5, 5), BAD);
            refusedOnSome("move(0, 3, 14)", x -> x.move(0, 3, 14), BAD);
            refusedOnSome("move(0, 3, 8)", x -> x.move(0, 3, 8), BAD);
            refusedOnSome("move(0, 0, 5)", x -> x.move(0, 0, 5), STATE);
            refusedOnSome("move(0, 1, 5)", x -> x.move(0, 1, 5), STATE);
            refusedOnSome("move(0, 3, 9)", x -> x.move(0, 3, 9), STATE);
            refusedOnSome("move(0, 4, 12)", x -> x.move(0, 4, 12), STATE);
            refusedOnSome("move(0, 3, 3)", x -> x.move(0, 3, 3), STATE);
            refusedOnSome("move(1, 3, 7)", x -> x.move(1, 3, 7), STATE);
            refusedOnSome("let(0, 0, 5)", x -> x.let(0, 0, 5), STATE);
            refusedOnSome("let(0, 3, 8)", x -> x.let(0, 3, 8), BAD);
            refusedOnSome("let(1, 3, 7)", x -> x.let(1, 3, 7), STATE);
        });
    }

    private static void lessonsKeepTheirs() {
        terms(0, NOTHING, () -> {
            refusedOnSome("order(96)", x -> x.order(96), BAD);
            refusedOnSome("order(-1)", x -> x.order(-1), BAD);
            int oneCupInBox = orderOf(ONE, CUP, IN, BOX);
            int eachCupOnLid = orderOf(EACH, CUP, ON, LID);
            refusedOnSome("one cup in box", x -> x.order(oneCupInBox), STATE);
            refusedOnSome("each cup on lid", x -> x.order(eachCupOnLid), STATE);
            refusedOnSome("lesson(3, 0, 0, 0)", x -> x.lesson(3, 0, 0, 0), BAD);
            refusedOnSome("lesson(0, -1, 0, 0)", x -> x.lesson(0, -1, 0, 0), BAD);
            refusedOnSome("lesson(0, 0, 2, 0)", x -> x.lesson(0, 0, 2, 0), BAD);
            refusedOnSome("lesson(0, 0, 0, 10)", x -> x.lesson(0, 0, 0, 10), BAD);
            refusedOnSome("unteach(3)", x -> x.unteach(3), BAD);
            refusedOnSome("unteach(1)", x -> x.unteach(1), STATE);
            refusedOnSome("fits(-2)", x -> x.fits(-2), BAD);
            refusedOnSome("barred(96, 0)", x -> x.barred(96, 0), BAD);
            refusedOnSome("barred(0, 2)", x -> x.barred(0, 2), BAD);
            refusedOnSome("question(2)", x -> x.question(2), BAD);
            refusedOnSome("plan(96, 0)", x -> x.plan(96, 0), BAD);
            refusedOnSome("plan(0, 2)", x -> x.plan(0, 2), BAD);
        });
        terms(0, NOTHING, () -> {
            refusedOnSome("lessons(8, 0, 1)", x -> x.lessons(8, 0, 1), BAD);
            refusedOnSome("lessons(0, 0, 0)", x -> x.lessons(0, 0, 0), BAD);
            refusedOnSome("lessons(0, 0, 5)", x -> x.lessons(0, 0, 5), BAD);
            refusedOnSome("lessons(5, 0, 1)", x -> x.lessons(5, 0, 1), NULL);
            refusedOnSome("lessons(0, 1, 2)", x -> x.lessons(0, 1, 2), PLACE);
            refusedOnSome("lessons(0, 0, 3)", x -> x.lessons(0, 0, 3), PLACE);
            refusedOnSome("lessons(0, -1, 1)", x -> x.lessons(0, -1, 1), PLACE);
        });
    }

    private static void neversKeepTheirs() {
        terms(0, NOTHING, () -> {
            refusedOnSome("feed(32, 0)", x -> x.feed(32, 0), BAD);
            refusedOnSome("feed(32, 9)", x -> x.feed(32, 9), BAD);
            refusedOnSome("feed(32, -1)", x -> x.feed(32, -1), BAD);
            refusedOnSome("kind(5)", x -> x.kind(5), BAD);
            refusedOnSome("as(5, 0)", x -> x.as(5, 0), BAD);
            refusedOnSome("as(0, 6)", x -> x.as(0, 6), BAD);
            refusedOnSome("as(0, 5)", x -> x.as(0, 5), KIND);
            refusedOnSome("ask(5, 0)", x -> x.ask(5, 0), BAD);
            refusedOnSome("ask(0, 2)", x -> x.ask(0, 2), BAD);
            refusedOnSome("count(8)", x -> x.count(8), BAD);
            refusedOnSome("trace(16)", x -> x.trace(16), NONE);
        });
    }

    private static void fullKeepsItsOwn() {
        terms(0, NOTHING, () -> {
            refusedOnFull("thing(0, 1, 0)", x -> x.thing(0, 1, 0), FULL);
            refusedOnFull("keep()", TableArms::keep, FULL);
            refusedOnFull("lesson(0, 0, 0, 0)", x -> x.lesson(0, 0, 0, 0), FULL);
            refusedOnFull("feed(59, 1)", x -> x.feed(59, 1), FULL);
            refusedOnFull("feed(59, 8)", x -> x.feed(59, 8), FULL);
            refusedOnFull("thing(4, 1, 0)", x -> x.thing(4, 1, 0), BAD);
            refusedOnFull("lesson(8, 0, 0, 0)", x -> x.lesson(8, 0, 0, 0), BAD);
            refusedOnFull("feed(59, 9)", x -> x.feed(59, 9), BAD);
            refusedOnFull("sheet(0, 0, 41)", x -> x.sheet(0, 0, 41), BAD);
            refusedOnFull("set(0, 40, 3)", x -> x.set(0, 40, 3), PLACE);
            refusedOnFull("copy(0, 0, 3, 1, 40)", x -> x.copy(0, 0, 3, 1, 40), PLACE);
        });
        terms(0, NOTHING, () -> {
            TableArms x = full();
            due(x.nevers(), -1000100 - 299);
            due(x.count(4), 16);
            due(x.count(7), 0);
            due(x.fault(), 1);
            due(x.broken(), 16);
        });
    }

    private static void askingChangesNothing() {
        terms(0, NOTHING, () -> {
            List<Integer> before = pictureOf(some());
            TableArms x = some();
            for (int k = 0; k < 8; k++) {
                x.where(k % 5, k);
                x.pile(k, 0);
                x.same(k, NONE);
                x.fits(k - 1);
                x.barred(k * 12, k % 2);
                x.plan(k * 13, k % 2);
                x.let(k % 2, k % 5, k);
                x.kind(k);
                x.trace(k);
                x.count(k);
            }
            x.question(0);
            x.quarrel();
            x.fault();
            x.broken();
            due(x.status(), 3);
            holds(pictureOf(x).equals(before), "asking changes nothing");
        });
    }
}
