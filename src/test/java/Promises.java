import java.util.ArrayList;
import java.util.List;

/** For each promise of the document a test by hand: ordinary inputs, edges, wrong inputs. */
public final class Promises {
    private static final int NONE = TableArms.NONE, BAD = TableArms.BAD, STATE = TableArms.STATE, FULL = TableArms.FULL;
    private static final int NULL = -1000011, PLACE = -1000012, KIND = -1000013, SIZE = -1000014, STORE = -1000015;
    private static final int MAX = Integer.MAX_VALUE, MIN = Integer.MIN_VALUE;
    private static final int CUP = 0, CLOTH = 1, BOX = 2, LID = 3, ON = 0, IN = 1, BESIDE = 2, ONE = 0, EACH = 1;

    private static final List<Integer> broken = new ArrayList<>();
    private static int promise;
    private static int step;

    private static void due(int got, int want) {
        step++;
        if (got != want) {
            System.out.println("promise " + promise + ", step " + step + ": answered " + got + ", due is " + want);
            if (!broken.contains(promise)) {
                broken.add(promise);
            }
        }
    }

    private static void begin(int number) {
        promise = number;
        step = 0;
    }

    private static int orderOf(int form, int a, int rel, int b) {
        return form + 2 * (a + 4 * (rel + 3 * b));
    }

    private static void feedText(TableArms x, String text) {
        for (int at = 0; at < text.length(); at += 8) {
            String part = text.substring(at, Math.min(at + 8, text.length()));
            long w = 0;
            for (int k = 0; k < part.length(); k++) {
                w = w << 8 | part.charAt(k);
            }
            x.feed(w, part.length());
        }
    }

    private static int read(TableArms x, String text) {
        feedText(x, text);
        return x.nevers();
    }

    private static void fill(TableArms x, int sheet, int lane, int... items) {
        x.sheet(sheet, lane, items.length);
        for (int k = 0; k < items.length; k++) {
            x.set(sheet, k, items[k]);
        }
    }

    private static void newObject() {
        begin(1);
        TableArms x = new TableArms();
        for (int what = 0; what < 8; what++) {
            due(x.count(what), 0);
        }
        due(x.status(), 0);
        due(x.fault(), 0);
        due(x.trace(0), NONE);
        due(x.fits(-1), 96);
        due(x.reach(0, 255), 255);
        due(x.reach(1, 255), 255);
        due(x.drop(7), NULL);
        due(x.thing(CUP, 1, 0), 0);
        due(new TableArms().count(1), 0);
        due(NONE, -1000000);
        due(BAD, -1000001);
        due(STATE, -1000002);
        due(FULL, -1000003);
    }

    private static void sheet() {
        begin(2);
        TableArms x = new TableArms();
        due(x.sheet(0, 0, 0), 0);
        due(x.sheet(7, 2, 40), 40);
        due(x.set(7, 39, 5), 5);
        due(x.sheet(7, 2, 41), BAD);
        due(x.sheet(7, 2, MAX), BAD);
        due(x.sheet(8, 0, 1), BAD);
        due(x.sheet(-1, 0, 1), BAD);
        due(x.sheet(0, 3, 1), BAD);
        due(x.sheet(0, -1, 1), BAD);
        due(x.sheet(0, 3, -1), BAD);
        due(x.sheet(7, 0, -1), SIZE);
        due(x.status(), 4);
        due(x.sheet(7, 0, MIN), SIZE);
        due(x.set(7, 39, 300), 300);
        due(x.sheet(7, 0, 2), 2);
        due(x.set(7, 2, 0), PLACE);
        due(x.sheet(7, 2, 40), 40);
        fill(x, 1, 2, 9, 9);
        x.sheet(1, 2, 2);
        due(x.ways(1, 0, 1, 1), NONE);
        due(x.count(0), 3);
    }

    private static void set() {
        begin(3);
        TableArms x = new TableArms();
        x.sheet(0, 0, 2);
        x.sheet(1, 1, 2);
        x.sheet(2, 2, 2);
        due(x.set(0, 0, 127), 127);
        due(x.set(0, 0, 128), -128);
        due(x.set(0, 1, 511), -1);
        due(x.set(0, 1, 256), 0);
        due(x.set(1, 0, 32768), -32768);
        due(x.set(1, 1, 65537), 1);
        due(x.set(2, 0, MIN), MIN);
        due(x.set(2, 1, MAX), MAX);
        due(x.set(2, 2, 1), PLACE);
        due(x.status(), 2);
        due(x.set(2, -1, 1), PLACE);
        due(x.set(2, MIN, 1), PLACE);
        due(x.set(3, 0, 1), NULL);
        due(x.status(), 1);
        due(x.set(3, -1, 1), NULL);
        due(x.set(8, 0, 1), BAD);
        due(x.set(-1, 0, 1), BAD);
        due(x.status(), 1);
        due(x.set(2, 0, 3), 3);
        due(x.status(), 0);
    }

    /** ways() tells what the items are: two rows of one cell cross if these are unlike. */
    private static boolean sameItems(TableArms x, int sheet, int i) {
        return x.ways(sheet, i, 1, 1) == NONE;
    }

    private static void copy() {
        begin(4);
        TableArms x = new TableArms();
        fill(x, 0, 0, 1, 2, 3, 4, 5);
        due(x.copy(0, 0, 0, 1, 4), 4);
        due(sameItems(x, 0, 0) ? 1 : 0, 1);
        due(sameItems(x, 0, 1) ? 1 : 0, 0);
        due(x.ways(0, 0, 2, 3), BAD);
        fill(x, 0, 0, 1, 2, 3, 4, 5);
        due(x.copy(0, 1, 0, 0, 4), 4);
        due(sameItems(x, 0, 0) ? 1 : 0, 0);
        due(sameItems(x, 0, 3) ? 1 : 0, 1);
        fill(x, 1, 0, 7, 7);
        due(x.copy(1, 0, 0, 0, 2), 2);
        due(sameItems(x, 0, 0) ? 1 : 0, 1);
        due(x.copy(0, 5, 1, 2, 0), 0);
        due(x.copy(0, 6, 1, 2, 0), PLACE);
        due(x.copy(0, 5, 1, 3, 0), PLACE);
        due(x.copy(0, 0, 1, 0, 3), PLACE);
        due(x.copy(1, 0, 0, 4, 2), PLACE);
        due(x.copy(0, 0, 0, 0, -1), PLACE);
        due(x.copy(0, -1, 0, 0, 1), PLACE);
        due(x.copy(0, 0, 0, -1, 1), PLACE);
        due(x.copy(0, MAX, 0, 0, MAX), PLACE);
        due(x.copy(0, 1, 0, 1, MAX), PLACE);
        due(x.copy(0, 0, 0, 0, MIN), PLACE);
        due(x.status(), 2);
        x.sheet(2, 1, 5);
        due(x.copy(0, 0, 2, 0, 1), STORE);
        due(x.copy(0, -1, 2, 9, 99), STORE);
        due(x.status(), 5);
        due(x.copy(0, 0, 3, 0, 1), NULL);
        due(x.copy(3, 0, 2, 0, 1), NULL);
        due(x.copy(8, 0, 3, 0, 1), BAD);
        due(x.copy(0, 0, -1, 0, 1), BAD);
        due(x.status(), 1);
    }

    private static void drop() {
        begin(5);
        TableArms x = new TableArms();
        x.sheet(3, 1, 17);
        due(x.count(0), 1);
        due(x.drop(3), 17);
        due(x.count(0), 0);
        due(x.drop(3), NULL);
        due(x.status(), 1);
        due(x.set(3, 0, 0), NULL);
        due(x.drop(8), BAD);
        due(x.drop(-1), BAD);
        x.sheet(3, 1, 0);
        due(x.drop(3), 0);
        due(x.status(), 0);
    }

    private static void thing() {
        begin(6);
        TableArms x = new TableArms();
        due(x.thing(CUP, 1, 0), 0);
        x.keep();
        x.move(0, 0, 5);
        due(x.thing(LID, 20, 5), 1);
        due(x.pile(5, 1), 1);
        due(x.pile(5, 0), 0);
        x.back(0);
        due(x.pile(5, -1), 1);
        due(x.pile(5, 0), 1);
        due(x.pile(0, 0), 0);
        due(x.thing(-1, 1, 0), BAD);
        due(x.thing(4, 1, 0), BAD);
        due(x.thing(0, 0, 0), BAD);
        due(x.thing(0, 21, 0), BAD);
        due(x.thing(0, 1, -1), BAD);
        due(x.thing(0, 1, 8), BAD);
        due(x.count(1), 2);
        for (int k = 2; k < 6; k++) {
            due(x.thing(BOX, k, 7), k);
        }
        due(x.thing(CUP, 1, 0), FULL);
        due(x.thing(CUP, 0, 0), BAD);
        due(x.pile(7, 3), 5);
    }

    private static void where() {
        begin(7);
        TableArms x = new TableArms();
        x.thing(CUP, 3, 6);
        x.thing(BOX, 9, 6);
        due(x.where(0, 0), CUP);
        due(x.where(1, 0), BOX);
        due(x.where(1, 1), 9);
        due(x.where(1, 2), 6);
        due(x.where(1, 3), 1);
        due(x.where(0, 3), 0);
        due(x.where(0, 4), NONE);
        due(x.where(0, 5), 0);
        due(x.where(1, 5), 1);
        due(x.where(1, 6), NONE);
        x.move(0, 1, 2);
        x.move(0, 0, 9);
        due(x.where(0, 2), 2);
        due(x.where(0, 3), NONE);
        due(x.where(0, 4), 1);
        due(x.where(0, 5), 0);
        due(x.where(1, 6), 0);
        due(x.where(0, 7), BAD);
        due(x.where(0, -1), BAD);
        due(x.where(2, 0), BAD);
        due(x.where(-1, 0), BAD);
    }

    private static void pile() {
        begin(8);
        TableArms x = new TableArms();
        x.thing(CLOTH, 1, 3);
        x.thing(LID, 1, 3);
        x.thing(CUP, 1, 3);
        due(x.pile(3, -1), 3);
        due(x.pile(3, 0), 0);
        due(x.pile(3, 2), 2);
        due(x.pile(3, 3), NONE);
        due(x.pile(3, MAX), NONE);
        due(x.pile(2, -1), 0);
        due(x.pile(2, 0), NONE);
        due(x.pile(3, -2), BAD);
        due(x.pile(8, 0), BAD);
        due(x.pile(-1, -1), BAD);
    }

    private static void reach() {
        begin(9);
        TableArms x = new TableArms();
        x.thing(CUP, 1, 0);
        due(x.reach(0, 5), 255);
        due(x.reach(0, 0), 5);
        due(x.reach(1, 255), 255);
        due(x.reach(0, 256), BAD);
        due(x.reach(0, -1), BAD);
        due(x.reach(2, 1), BAD);
        due(x.reach(-1, 1), BAD);
        due(x.reach(0, 6), 0);
        due(x.move(0, 0, 1), STATE);
        due(x.reach(0, 3), 6);
        due(x.move(0, 0, 2), STATE);
        due(x.move(0, 0, 1), 1);
    }

    private static void move() {
        begin(10);
        TableArms x = new TableArms();
        x.thing(CUP, 1, 0);
        x.thing(BOX, 1, 1);
        x.thing(CLOTH, 1, 0);
        x.thing(BOX, 1, 2);
        x.thing(LID, 1, 7);
        due(x.move(0, 0, 3), STATE);
        due(x.move(0, 2, 0), 1);
        due(x.pile(0, 1), 2);
        due(x.move(1, 2, 9), 1);
        due(x.move(1, 0, 9), STATE);
        due(x.move(1, 1, 11), STATE);
        due(x.move(1, 3, 11), STATE);
        due(x.move(1, 2, 9), STATE);
        due(x.move(1, 2, 11), 1);
        due(x.where(2, 4), 3);
        due(x.where(1, 6), NONE);
        due(x.move(0, 3, 5), 1);
        due(x.where(2, 2), 5);
        due(x.move(0, 4, 5), 1);
        due(x.move(0, 2, 6), STATE);
        due(x.move(0, 3, 6), STATE);
        due(x.move(0, 0, 11), STATE);
        due(x.move(0, 4, 9), 1);
        due(x.kind(1), 3);
        due(x.move(0, 2, 5), 1);
        due(x.pile(5, 0), 3);
        due(x.pile(5, 1), 2);
        x.reach(0, 1 << 0 | 1 << 1);
        due(x.move(0, 4, 0), 1);
        due(x.pile(0, 1), 4);
        due(x.move(0, 2, 0), STATE);
        due(x.move(0, 2, 9), STATE);
        due(x.move(0, 4, 2), STATE);
        due(x.move(2, 0, 0), BAD);
        due(x.move(-1, 0, 0), BAD);
        due(x.move(0, 5, 0), BAD);
        due(x.move(0, -1, 0), BAD);
        due(x.move(0, 0, -1), BAD);
        due(x.move(0, 0, 14), BAD);
        due(x.move(0, 0, 13), BAD);
        due(x.move(0, 0, 8), BAD);
    }

    private static void keep() {
        begin(11);
        TableArms x = new TableArms();
        x.thing(CUP, 1, 0);
        for (int k = 0; k < 8; k++) {
            due(x.keep(), k);
        }
        due(x.keep(), FULL);
        due(x.count(2), 8);
        x.move(0, 0, 4);
        due(x.same(NONE, 7), 0);
        due(x.same(0, 7), 1);
    }

    private static void back() {
        begin(12);
        TableArms x = new TableArms();
        due(x.back(0), BAD);
        x.thing(BOX, 1, 0);
        x.thing(CUP, 1, 1);
        x.keep();
        x.move(0, 1, 8);
        x.keep();
        due(x.back(0), 1);
        due(x.where(1, 4), NONE);
        due(x.where(0, 6), NONE);
        due(x.pile(1, 0), 1);
        due(x.back(1), 1);
        due(x.where(1, 4), 0);
        x.move(0, 1, 7);
        due(x.back(1), 1);
        due(x.where(1, 2), 0);
        due(x.back(2), BAD);
        due(x.back(-1), BAD);
        due(x.back(NONE), BAD);
    }

    private static void same() {
        begin(13);
        TableArms x = new TableArms();
        due(x.same(NONE, NONE), 1);
        due(x.same(0, NONE), BAD);
        x.thing(BOX, 1, 0);
        x.thing(CUP, 1, 0);
        x.thing(CUP, 1, 4);
        x.keep();
        x.move(0, 1, 4);
        x.keep();
        due(x.same(0, 1), 0);
        x.move(0, 1, 0);
        due(x.same(NONE, 0), 1);
        x.move(0, 1, 5);
        x.move(0, 2, 8);
        x.move(0, 1, 4);
        x.keep();
        x.move(0, 1, 0);
        due(x.same(NONE, 2), 0);
        due(x.same(1, 1), 1);
        due(x.same(3, 0), BAD);
        due(x.same(0, -1), BAD);
    }

    private static void order() {
        begin(14);
        TableArms x = new TableArms();
        due(x.order(orderOf(EACH, CUP, ON, CUP)), 0);
        due(x.order(orderOf(ONE, CUP, ON, CUP)), STATE);
        x.thing(CUP, 1, 0);
        x.thing(CUP, 1, 1);
        x.thing(BOX, 1, 5);
        x.thing(CLOTH, 1, 5);
        x.reach(0, 0);
        x.reach(1, 0);
        x.keep();
        due(x.order(orderOf(ONE, CUP, IN, BOX)), STATE);
        due(x.order(orderOf(ONE, CUP, ON, BOX)), STATE);
        due(x.order(orderOf(ONE, CUP, BESIDE, CUP)), STATE);
        due(x.order(orderOf(EACH, CUP, BESIDE, CUP)), 0);
        due(x.order(orderOf(EACH, CUP, ON, CUP)), 1);
        due(x.where(0, 2), 1);
        due(x.where(1, 3), 0);
        due(x.order(orderOf(EACH, CUP, ON, CUP)), STATE);
        due(x.same(NONE, 0), 0);
        due(x.order(orderOf(ONE, CLOTH, BESIDE, BOX)), 1);
        due(x.where(3, 2), 4);
        due(x.order(orderOf(EACH, CUP, IN, BOX)), 1);
        due(x.where(0, 4), 2);
        due(x.order(orderOf(ONE, CUP, ON, CUP)), 1);
        due(x.where(0, 2), 1);
        due(x.order(orderOf(ONE, CUP, IN, CUP)), STATE);
        due(x.order(orderOf(EACH, CLOTH, IN, LID)), STATE);
        due(x.order(orderOf(EACH, LID, IN, LID)), 0);
        due(x.order(orderOf(ONE, BOX, IN, BOX)), STATE);
        due(x.order(96), BAD);
        due(x.order(-1), BAD);
        due(x.order(MAX), BAD);
        besideLooksAtTheFirstOnly();
        onTheBoxItCameFrom();
        eachByNumbers();
    }

    private static void eachByNumbers() {
        TableArms x = withTwoCupsAndCloths();
        due(x.order(orderOf(EACH, CUP, ON, CLOTH)), 2);
        due(x.where(0, 2), 2);
        due(x.where(1, 2), 3);
        x.back(0);
        due(x.order(orderOf(ONE, CUP, ON, CLOTH)), 1);
        due(x.where(0, 2), 2);
        due(x.where(1, 2), 1);
        x.back(0);
        due(x.order(orderOf(EACH, CLOTH, BESIDE, CUP)), 1);
        due(x.where(2, 2), 2);
        due(x.where(3, 2), 4);
    }

    private static TableArms withTwoCupsAndCloths() {
        TableArms x = new TableArms();
        x.thing(CUP, 1, 0);
        x.thing(CUP, 1, 1);
        x.thing(CLOTH, 1, 2);
        x.thing(CLOTH, 1, 3);
        x.keep();
        return x;
    }

    private static void besideLooksAtTheFirstOnly() {
        TableArms x = new TableArms();
        x.thing(BOX, 1, 0);
        x.thing(LID, 1, 1);
        x.thing(LID, 1, 4);
        x.thing(BOX, 1, 7);
        x.thing(CUP, 1, 2);
        due(x.order(orderOf(ONE, CUP, BESIDE, BOX)), STATE);
        x.move(0, 1, 0);
        due(x.order(orderOf(ONE, CUP, BESIDE, BOX)), 1);
        due(x.where(4, 2), 1);
    }

    private static void onTheBoxItCameFrom() {
        TableArms x = new TableArms();
        x.thing(BOX, 1, 3);
        x.thing(CUP, 1, 0);
        x.move(0, 1, 8);
        due(x.order(orderOf(ONE, CUP, ON, BOX)), 1);
        due(x.pile(3, 1), 1);
        due(x.order(orderOf(ONE, CUP, BESIDE, BOX)), 1);
        due(x.where(1, 2), 2);
    }

    private static TableArms withTwoKept() {
        TableArms x = new TableArms();
        x.thing(CUP, 1, 0);
        x.thing(CLOTH, 1, 5);
        x.keep();
        x.order(orderOf(ONE, CUP, ON, CLOTH));
        x.keep();
        return x;
    }

    private static void lesson() {
        begin(15);
        TableArms x = withTwoKept();
        due(x.lesson(0, 2, 0, 0), BAD);
        due(x.lesson(2, 0, 0, 0), BAD);
        due(x.lesson(-1, 0, 0, 0), BAD);
        due(x.lesson(NONE, 0, 0, 0), BAD);
        due(x.lesson(0, 0, 2, 0), BAD);
        due(x.lesson(0, 0, -1, 0), BAD);
        due(x.lesson(0, 0, 0, 10), BAD);
        due(x.lesson(0, 0, 0, -1), BAD);
        for (int k = 0; k < 8; k++) {
            due(x.lesson(0, 1, k % 2, k), k);
        }
        x.unteach(0);
        due(x.lesson(0, 1, 0, 9), FULL);
        due(x.lesson(0, 1, 0, 10), BAD);
        due(x.count(3), 7);
    }

    private static void lessons() {
        begin(16);
        TableArms x = withTwoKept();
        fill(x, 0, 0, 0, 1, 0, 9, 0, 2, 0, 1, 1, 1, 1, 0, 0, 0, -1, 0);
        due(x.lessons(0, 0, 4), 2);
        due(x.count(3), 2);
        due(x.barred(orderOf(ONE, CUP, BESIDE, CLOTH), 1), 9);
        due(x.lessons(0, 0, 1), 1);
        due(x.status(), 0);
        due(x.lessons(0, 1, 4), PLACE);
        due(x.lessons(0, -1, 1), PLACE);
        due(x.lessons(0, MAX, 1), PLACE);
        due(x.lessons(1, 0, 1), NULL);
        due(x.status(), 1);
        due(x.lessons(0, 0, 0), BAD);
        due(x.lessons(0, 0, 5), BAD);
        due(x.lessons(8, 0, 1), BAD);
        due(x.lessons(-1, 0, 1), BAD);
        for (int k = 3; k < 8; k++) {
            x.lesson(0, 0, 0, 0);
        }
        due(x.lessons(0, 0, 4), 0);
        due(x.count(3), 8);
    }

    private static void unteach() {
        begin(17);
        TableArms x = withTwoKept();
        due(x.unteach(0), BAD);
        x.lesson(0, 1, 0, 4);
        int all = x.fits(-1);
        due(x.unteach(-1), BAD);
        due(x.unteach(1), BAD);
        due(x.unteach(0), 1);
        due(x.unteach(0), STATE);
        due(x.fits(-1), 96);
        due(all < 96 ? 1 : 0, 1);
        due(x.count(3), 0);
    }

    private static void fits() {
        begin(18);
        TableArms x = withTwoKept();
        due(x.fits(95), 95);
        due(x.fits(96), NONE);
        due(x.fits(-2), BAD);
        due(x.fits(MIN), BAD);
        due(x.fits(MAX), NONE);
        x.lesson(0, 1, 0, 4);
        due(x.fits(-1), 2);
        due(x.fits(0), orderOf(ONE, CUP, ON, CLOTH));
        due(x.fits(1), orderOf(EACH, CUP, ON, CLOTH));
        due(x.fits(2), NONE);
        x.thing(CUP, 1, 7);
        due(x.fits(-1), 2);
        // Now a cup comes on the first one: the cup that the lesson moved is no more clear at its start.
        x.thing(CUP, 1, 0);
        due(x.fits(-1), 0);
        due(x.fits(0), NONE);
        x.unteach(0);
        x.lesson(0, 1, 1, 4);
        due(x.fits(-1), 96);
        x.lesson(0, 0, 1, 4);
        x.lesson(0, 0, 0, 4);
        due(x.fits(-1), 0);
        due(x.fits(0), NONE);
    }

    private static void barred() {
        begin(19);
        TableArms x = withTwoKept();
        int put = orderOf(ONE, CUP, ON, CLOTH);
        int other = orderOf(ONE, CLOTH, ON, CUP);
        int nothing = orderOf(EACH, LID, ON, LID);
        due(x.barred(put, 0), NONE);
        due(x.barred(put, 1), NONE);
        x.lesson(0, 1, 0, 7);
        x.lesson(0, 1, 1, 8);
        x.lesson(0, 0, 1, 9);
        due(x.barred(other, 0), 0);
        due(x.barred(other, 1), 7);
        due(x.barred(put, 0), 1);
        due(x.barred(put, 1), 8);
        x.unteach(0);
        due(x.barred(other, 0), NONE);
        due(x.barred(nothing, 0), 2);
        due(x.barred(nothing, 1), 9);
        due(x.barred(96, 0), BAD);
        due(x.barred(-1, 0), BAD);
        due(x.barred(0, 2), BAD);
        due(x.barred(0, -1), BAD);
    }

    private static void question() {
        begin(20);
        TableArms x = new TableArms();
        due(x.question(0), NONE);
        due(x.question(1), 0);
        due(x.question(2), BAD);
        due(x.question(-1), BAD);
        x.keep();
        due(x.question(0), 0);
        due(x.question(1), 2);
        x.thing(CUP, 1, 0);
        x.thing(CLOTH, 1, 0);
        x.keep();
        x.move(0, 1, 7);
        x.keep();
        // On table 2 cup and cloth lie far apart: each may go on or beside the other, stay, or fail.
        due(x.question(0), 2);
        due(x.question(1), 6);
        x.keep();
        due(x.question(0), 2);
        x.lesson(0, 1, 0, 0);
        x.lesson(0, 2, 0, 0);
        due(x.fits(-1), 0);
        due(x.question(0), 0);
        due(x.question(1), 0);
    }

    private static void quarrel() {
        begin(21);
        TableArms x = withTwoKept();
        due(x.quarrel(), 0);
        x.lesson(0, 1, 0, 0);
        due(x.quarrel(), 0);
        x.lesson(0, 1, 1, 0);
        due(x.quarrel(), 1);
        x.lesson(0, 1, 0, 0);
        due(x.quarrel(), 2);
        x.lesson(0, 1, 1, 0);
        due(x.quarrel(), 5);
        x.unteach(0);
        due(x.quarrel(), 4);
        x.unteach(2);
        due(x.quarrel(), 0);
        due(quarrelOf(ONE, EACH), 1);
        due(quarrelOf(EACH, ONE), 1);
    }

    private static int quarrelOf(int form, int otherForm) {
        TableArms x = withTwoCupsAndCloths();
        x.order(orderOf(form, CUP, ON, CLOTH));
        x.keep();
        x.back(0);
        x.order(orderOf(otherForm, CUP, ON, CLOTH));
        x.keep();
        x.lesson(0, 1, 0, 0);
        x.lesson(0, 2, 0, 0);
        return x.quarrel();
    }

    private static void plan() {
        begin(22);
        TableArms x = new TableArms();
        due(x.plan(orderOf(EACH, CUP, ON, CUP), 0), NONE);
        x.thing(CUP, 1, 0);
        x.thing(CLOTH, 1, 1);
        x.thing(BOX, 1, 7);
        x.thing(LID, 1, 7);
        int inBox = orderOf(ONE, CUP, IN, BOX);
        due(x.plan(inBox, 0), 2);
        // The lid may not go on the cup.
        due(x.plan(inBox, 1), 16 * 3 + 1);
        due(x.plan(orderOf(ONE, CUP, BESIDE, CLOTH), 0), 0);
        due(x.plan(orderOf(ONE, CUP, BESIDE, CLOTH), 1), NONE);
        due(x.plan(orderOf(ONE, CLOTH, ON, CUP), 0), 1);
        due(x.plan(orderOf(ONE, CLOTH, ON, CUP), 1), 16);
        due(x.plan(orderOf(EACH, CUP, BESIDE, BOX), 1), 3);
        x.reach(0, 1 << 7 | 1 << 4);
        x.reach(1, 1 << 7 | 1 << 0);
        due(x.plan(inBox, 1), 16 * 3 + 4);
        x.reach(1, 1 << 6 | 1 << 0);
        due(x.plan(inBox, 0), NONE);
        due(x.plan(inBox, 1), NONE);
        x.reach(0, 255);
        x.thing(LID, 1, 7);
        due(x.plan(inBox, 0), NONE);
        x.thing(BOX, 1, 3);
        due(x.plan(inBox, 0), 1);
        due(x.plan(inBox, 1), 13);
        due(x.plan(orderOf(ONE, CUP, IN, CUP), 0), NONE);
        due(x.plan(96, 0), BAD);
        due(x.plan(-1, 0), BAD);
        due(x.plan(0, 2), BAD);
        due(x.plan(0, -1), BAD);
        due(x.pile(7, -1), 3);
        plansOfEach();
        planByTheOther();
    }

    private static void plansOfEach() {
        TableArms x = withTwoCupsAndCloths();
        due(x.plan(orderOf(ONE, CUP, ON, CLOTH), 0), 1);
        due(x.plan(orderOf(ONE, CUP, ON, CLOTH), 1), 2);
        due(x.plan(orderOf(EACH, CUP, ON, CLOTH), 0), 2);
        due(x.plan(orderOf(EACH, CUP, ON, CLOTH), 1), 2);
        x.move(0, 1, 3);
        due(x.plan(orderOf(ONE, CUP, ON, CLOTH), 0), 0);
        due(x.plan(orderOf(EACH, CUP, ON, CLOTH), 0), 1);
        x.move(0, 2, 3);
        due(x.plan(orderOf(EACH, CUP, ON, CLOTH), 1), 3);
        x.thing(CUP, 1, 7);
        due(x.plan(orderOf(EACH, CUP, ON, CLOTH), 0), NONE);
    }

    /** The cup cannot move: the lid must come beside it, and no box may. */
    private static void planByTheOther() {
        TableArms x = new TableArms();
        x.thing(CUP, 1, 0);
        x.thing(CLOTH, 1, 0);
        x.thing(BOX, 1, 7);
        x.thing(LID, 1, 6);
        x.reach(0, 255 - 1);
        x.reach(1, 0);
        due(x.plan(orderOf(ONE, CUP, BESIDE, LID), 0), 1);
        due(x.plan(orderOf(ONE, CUP, BESIDE, LID), 1), 16 * 3 + 1);
        due(x.plan(orderOf(ONE, CUP, ON, LID), 0), NONE);
    }

    private static void feed() {
        begin(23);
        TableArms x = new TableArms();
        due(x.feed(-1L, 0), BAD);
        due(x.feed(-1L, 9), BAD);
        due(x.feed(-1L, -1), BAD);
        due(x.feed(0x6E657665723B6F6EL, 2), 2);
        due(x.nevers(), -1000100);
        feedText(x, "most 0 5");
        due(x.count(7), 8);
        due(x.feed(0xFF3BL, 1), 9);
        due(x.nevers(), 1);
        for (int k = 1; k <= 37; k++) {
            due(x.feed(0x2020202020202020L, 8), 8 * k);
        }
        due(x.feed(0L, 5), FULL);
        due(x.count(7), 296);
        due(x.feed(0x20202020L, 4), 300);
        due(x.feed(0L, 1), FULL);
        due(x.feed(0L, 9), BAD);
        due(x.nevers(), 1);
        due(x.count(7), 0);
    }

    private static void nevers() {
        begin(24);
        TableArms x = new TableArms();
        due(x.nevers(), 0);
        due(read(x, " \n "), 0);
        due(read(x, "never cup on cloth;most 0 0;\nnever lid at 7 ;"), 3);
        due(read(x, "most3 200;never box beside lid;"), 5);
        due(read(x, "never cup in box; never"), -1000123);
        due(x.count(4), 5);
        due(read(x, "never cup in box;  "), 6);
        due(read(x, "never cup in  "), -1000114);
        due(read(x, "never cup\tin box;"), -1000109);
        due(read(x, "Never cup in box;"), -1000100);
        due(read(x, "never cup in boX;"), -1000113);
        due(read(x, "never cup in at;"), -1000113);
        due(read(x, "never cupz in box;"), -1000106);
        due(read(x, "never acup in box;"), -1000106);
        due(read(x, "nevercup in box;"), -1000100);
        due(read(x, ";"), -1000100);
        due(read(x, "most 1 2 ; 3"), -1000111);
        due(read(x, "most 007 000;"), 7);
        due(read(x, "most 0007 0;"), -1000105);
        for (int k = 8; k <= 16; k++) {
            due(read(x, "never cup at 0;"), k);
        }
        due(read(x, " never cup"), -1000101);
        due(read(x, "most"), -1000100);
        due(x.count(4), 16);
    }

    private static void fault() {
        begin(25);
        TableArms x = new TableArms();
        due(x.fault(), 0);
        read(x, "most 0 0;");
        due(x.fault(), 0);
        due(read(x, "most 8 foo;"), -1000105);
        due(x.fault(), 2);
        due(read(x, "most 0 201;"), -1000107);
        due(x.fault(), 2);
        due(read(x, "most 0 2000;"), -1000107);
        due(x.fault(), 1);
        due(read(x, "never cup at 8;"), -1000113);
        due(x.fault(), 2);
        read(x, "most 0 0;");
        due(x.fault(), 2);
        due(read(x, "never cup 9;"), -1000110);
        due(x.fault(), 1);
        read(x, "most 0 0;most 0 0;most 0 0;most 0 0;most 0 0;most 0 0;most 0 0;");
        read(x, "most 0 0;most 0 0;most 0 0;most 0 0;most 0 0;most 0 0;");
        due(x.count(4), 15);
        due(read(x, "most 0 0;most 9 9;"), -1000109);
        due(x.fault(), 3);
        due(x.count(4), 15);
        due(read(x, "most 0 0;mist 9 9;"), -1000109);
        due(x.fault(), 1);
        due(read(x, "most 0 0;"), 16);
    }

    private static void broken() {
        begin(26);
        TableArms x = new TableArms();
        x.thing(CUP, 5, 0);
        x.thing(BOX, 7, 1);
        x.thing(LID, 2, 6);
        due(x.broken(), 0);
        read(x, "never cup in box;most 1 11;most 1 12;never cup at 1;never lid on box;never cup beside box;never cup at 0;");
        due(x.broken(), 2);
        x.move(0, 0, 9);
        due(x.broken(), 2);
        x.move(0, 2, 1);
        due(x.broken(), 4);
        x.move(0, 2, 6);
        x.move(0, 0, 1);
        due(x.broken(), 2);
        read(x, "never cup at 1;never cup in cup;never box in box;");
        due(x.broken(), 3);
    }

    private static void let() {
        begin(27);
        TableArms x = new TableArms();
        x.thing(CUP, 5, 0);
        x.thing(BOX, 7, 3);
        due(x.let(0, 0, 7), 1);
        read(x, "never cup at 5;");
        due(x.let(0, 0, 0), 1);
        due(x.let(0, 0, 5), 0);
        due(x.let(0, 0, 4), 0);
        due(x.let(0, 0, 1), 0);
        due(x.let(0, 0, 6), 0);
        due(x.let(0, 0, 2), 1);
        due(x.let(1, 1, 5), 1);
        due(x.let(0, 0, 9), 1);
        due(x.pile(0, 0), 0);
        x.move(0, 0, 9);
        due(x.let(0, 0, 3), 1);
        due(x.where(0, 4), 1);
        read(x, "never cup on box;");
        due(x.let(0, 0, 3), 0);
        due(x.let(0, 0, 2), 0);
        due(x.let(0, 0, 0), 1);
        due(x.let(0, 1, 5), 1);
        read(x, "most 1 11;");
        due(x.let(0, 1, 5), 0);
        due(x.where(0, 4), 1);
        due(x.let(0, 0, 9), STATE);
        x.reach(0, 1 << 3);
        due(x.let(0, 0, 0), STATE);
        due(x.let(1, 0, 0), 1);
        due(x.let(2, 0, 0), BAD);
        due(x.let(0, 2, 0), BAD);
        due(x.let(0, 0, 8), BAD);
        due(x.let(0, 0, 14), BAD);
        due(x.let(0, 0, -1), BAD);
    }

    private static void ways() {
        begin(28);
        TableArms x = new TableArms();
        fill(x, 0, 0, 0, 1, 2, 3, 3, 2, 1, 0);
        due(x.ways(0, 0, 4, 4), NONE);
        due(x.status(), 0);
        due(x.ways(0, 0, 2, 2), 1);
        due(x.ways(0, 3, 1, 1), NONE);
        due(x.ways(0, 0, 1, 1), 0);
        fill(x, 0, 2, 0, 1, 1, 0);
        due(x.ways(0, 0, 2, 2), NONE);
        // The second arm must wait one tick for the first to leave cell 1.
        fill(x, 0, 2, 0, 1, 5, 2, 1, 0);
        due(x.ways(0, 0, 3, 3), 3);
        fill(x, 0, 1, 0, 1, 2, 1, 5);
        due(x.ways(0, 0, 3, 2), 2);
        fill(x, 0, 1, 0, 0, 0, 7);
        due(x.ways(0, 0, 3, 1), 2);
        due(x.ways(0, 0, 3, 2), PLACE);
        due(x.ways(0, -1, 1, 1), PLACE);
        due(x.ways(0, MAX, 1, 1), PLACE);
        due(x.status(), 2);
        fill(x, 0, 1, 3, 4, 8, -1, 0, 2);
        x.drop(7);
        due(x.ways(0, 0, 2, 1), BAD);
        due(x.ways(0, 1, 1, 1), BAD);
        due(x.ways(0, 3, 1, 1), BAD);
        due(x.ways(0, 4, 1, 1), 0);
        due(x.ways(7, 0, 1, 1), NULL);
        due(x.ways(0, 0, 2, 1), BAD);
        due(x.status(), 1);
        due(x.ways(8, 0, 1, 1), BAD);
        due(x.ways(0, 0, 0, 1), BAD);
        due(x.ways(0, 0, 1, 0), BAD);
        due(x.ways(0, 0, 13, 1), BAD);
        due(x.ways(0, 0, 1, 13), BAD);
        x.sheet(0, 0, 24);
        for (int k = 0; k < 12; k++) {
            x.set(0, k, k % 2);
            x.set(0, 12 + k, 6 + k % 2);
        }
        due(x.ways(0, 0, 12, 12), 11);
    }

    private static void kind() {
        begin(29);
        TableArms x = new TableArms();
        x.thing(BOX, 5, 0);
        x.thing(LID, 2, 1);
        x.thing(CUP, 2, 2);
        x.thing(CLOTH, 2, 3);
        due(x.kind(0), 3);
        due(x.kind(1), 5);
        due(x.kind(2), 1);
        due(x.kind(3), 2);
        x.move(0, 3, 0);
        x.move(0, 1, 0);
        due(x.kind(0), 3);
        x.move(0, 1, 1);
        x.move(0, 3, 3);
        x.move(0, 1, 8);
        due(x.kind(0), 3);
        x.move(0, 1, 0);
        due(x.kind(0), 4);
        x.move(0, 3, 0);
        due(x.kind(0), 4);
        due(x.kind(4), BAD);
        due(x.kind(-1), BAD);
    }

    private static void as() {
        begin(30);
        TableArms x = new TableArms();
        x.thing(BOX, 5, 0);
        x.thing(LID, 2, 1);
        due(x.as(0, 0), 5);
        due(x.as(0, 3), 5);
        due(x.as(0, 4), KIND);
        due(x.status(), 3);
        due(x.as(0, 6), BAD);
        due(x.as(0, -1), BAD);
        due(x.as(2, 0), BAD);
        due(x.status(), 3);
        due(x.as(1, 5), 2);
        due(x.status(), 0);
        due(x.as(1, 0), 2);
        due(x.as(1, 1), KIND);
        due(x.as(1, 2), KIND);
        x.move(0, 1, 0);
        due(x.as(0, 4), 5);
        due(x.as(0, 3), 5);
        due(x.as(1, 3), KIND);
    }

    private static void ask() {
        begin(31);
        TableArms x = new TableArms();
        x.thing(CLOTH, 3, 0);
        x.thing(BOX, 5, 0);
        x.thing(LID, 2, 4);
        x.thing(CUP, 7, 2);
        due(x.ask(3, 0), 7 + 3 + 100);
        due(x.ask(3, 1), 103);
        x.move(0, 3, 9);
        due(x.ask(3, 0), 10);
        due(x.ask(1, 0), 12);
        due(x.ask(1, 1), 1);
        x.move(0, 2, 0);
        due(x.ask(1, 0), 24);
        due(x.ask(1, 1), 25);
        due(x.ask(2, 0), 4);
        due(x.ask(2, 1), 2);
        due(x.ask(0, 0), 3);
        due(x.ask(0, 1), 1000);
        x.move(0, 2, 5);
        x.move(0, 3, 3);
        x.move(0, 2, 9);
        due(x.ask(2, 0), 2);
        due(x.ask(1, 0), 7);
        due(x.ask(4, 0), BAD);
        due(x.ask(-1, 0), BAD);
        due(x.ask(0, 2), BAD);
        due(x.ask(0, -1), BAD);
    }

    private static void trace() {
        begin(32);
        TableArms x = new TableArms();
        x.thing(BOX, 5, 0);
        x.thing(LID, 2, 0);
        x.thing(CUP, 2, 1);
        x.ask(0, 1);
        int[] wanted = {22, 20, 13, 12, 10, NONE};
        for (int k = 0; k < wanted.length; k++) {
            due(x.trace(k), wanted[k]);
        }
        due(x.ask(9, 0), BAD);
        due(x.trace(0), 22);
        x.ask(2, 0);
        int[] ofCup = {11, 10, 21, 20, NONE};
        for (int k = 0; k < ofCup.length; k++) {
            due(x.trace(k), ofCup[k]);
        }
        due(x.trace(-1), NONE);
        due(x.trace(16), NONE);
        due(x.trace(MAX), NONE);
        due(x.trace(MIN), NONE);
    }

    private static void count() {
        begin(33);
        TableArms x = new TableArms();
        x.sheet(4, 0, 1);
        x.thing(BOX, 5, 0);
        x.thing(LID, 2, 0);
        x.thing(CUP, 2, 1);
        x.keep();
        x.lesson(0, 0, 0, 0);
        x.lesson(0, 0, 0, 0);
        x.unteach(0);
        read(x, "most 0 0;");
        feedText(x, "abc");
        int[] wanted = {1, 3, 1, 1, 1, 1, 2, 3, BAD};
        for (int k = 0; k < wanted.length; k++) {
            due(x.count(k), wanted[k]);
        }
        due(x.count(-1), BAD);
        x.move(0, 1, 1);
        due(x.count(5), 0);
        due(x.count(6), 2);
        x.move(0, 1, 8);
        due(x.count(6), 2);
    }

    private static void status() {
        begin(34);
        TableArms x = new TableArms();
        due(x.status(), 0);
        due(x.drop(0), NULL);
        due(x.status(), 1);
        due(x.thing(CUP, 1, 0), 0);
        due(x.move(0, 0, 1), 1);
        due(x.lesson(0, 0, 0, 0), BAD);
        due(x.nevers(), 0);
        due(x.ask(0, 0), 101);
        due(x.status(), 1);
        due(x.sheet(0, 9, 1), BAD);
        due(x.status(), 1);
        due(x.sheet(0, 0, 8), 8);
        due(x.status(), 0);
        due(x.lessons(0, 5, 1), PLACE);
        due(x.status(), 2);
        due(x.lessons(0, 0, 1), 0);
        due(x.status(), 0);
        due(x.as(0, 3), KIND);
        due(x.status(), 3);
        due(x.ways(0, 0, 1, 1), NONE);
        due(x.status(), 0);
        due(x.sheet(0, 0, -5), SIZE);
        due(x.status(), 4);
        due(x.sheet(1, 2, 5), 5);
        due(x.copy(0, 0, 1, 0, 1), STORE);
        due(x.status(), 5);
        due(x.copy(0, 0, 0, 1, 1), 1);
        due(x.status(), 0);
    }

    public static void main(String[] args) {
        newObject();
        sheet();
        set();
        copy();
        drop();
        thing();
        where();
        pile();
        reach();
        move();
        keep();
        back();
        same();
        order();
        lesson();
        lessons();
        unteach();
        fits();
        barred();
        question();
        quarrel();
        plan();
        feed();
        nevers();
        fault();
        broken();
        let();
        ways();
        kind();
        as();
        ask();
        trace();
        count();
        status();
        System.out.println("Promises: " + (34 - broken.size()) + " passed, " + broken.size() + " failed");
        System.exit(broken.isEmpty() ? 0 : 1);
    }
}
