import java.util.ArrayList;
import java.util.List;

/** What the tests of single sentences share: each quotes the document and tells every answer that is not due. */
abstract class Edge {
    static final int NONE = -1000000, BAD = -1000001, STATE = -1000002, FULL = -1000003;
    static final int NULL = -1000011, PLACE = -1000012, KIND = -1000013, SIZE = -1000014, STORE = -1000015;
    static final int MIN = Integer.MIN_VALUE, MAX = Integer.MAX_VALUE;
    static final int BYTES = 0, SHORTS = 1, INTS = 2;
    static final int CUP = 0, CLOTH = 1, BOX = 2, LID = 3;
    static final int ON = 0, IN = 1, BESIDE = 2, ONE = 0, EACH = 1;
    static final int SCRATCH = 7;

    /** Words of the document that have a test, and where they stand. */
    record Quote(String section, String words) {
    }

    static final List<Quote> quotes = new ArrayList<>();
    static int passed;
    static int failed;
    private static String current = "";
    private static int step;
    private static int wrong;

    static void terms(int part, String words, Runnable test) {
        sentence("Terms " + part, words, test);
    }

    static void promise(int number, String words, Runnable test) {
        sentence("Promise " + number, words, test);
    }

    private static void sentence(String section, String words, Runnable test) {
        quotes.add(new Quote(section, words));
        current = section + " \"" + words + "\"";
        step = 0;
        wrong = 0;
        try {
            test.run();
        } catch (RuntimeException | Error thrown) {
            tell("threw " + thrown);
        }
        if (step == 0) {
            tell("tests nothing");
        }
        passed += wrong == 0 ? 1 : 0;
        failed += wrong == 0 ? 0 : 1;
    }

    static void due(int got, int want) {
        step++;
        if (got != want) {
            tell("answered " + got + ", due is " + want);
        }
    }

    static void dueOf(String call, int got, int want) {
        step++;
        if (got != want) {
            tell(call + " answered " + got + ", due is " + want);
        }
    }

    static void holds(boolean so, String what) {
        step++;
        if (!so) {
            tell("not so: " + what);
        }
    }

    private static void tell(String what) {
        wrong++;
        if (wrong <= 5) {
            StackTraceElement[] stack = Thread.currentThread().getStackTrace();
            String line = "";
            for (StackTraceElement e : stack) {
                if (e.getClassName().startsWith("EdgesOf")) {
                    line = e.getClassName() + ":" + e.getLineNumber() + " ";
                    break;
                }
            }
            System.out.println(current + ", step " + step + ": " + line + what);
        }
    }

    /** Numbers that are not within 0 .. last, the nearest and the farthest on either side. */
    static int[] outside(int last) {
        return new int[] {MIN, -1, last + 1, MAX};
    }

    /** Things as they are told: sort, weight, cell of each. */
    static TableArms with(int... all) {
        TableArms x = new TableArms();
        for (int k = 0; k + 2 < all.length; k += 3) {
            x.thing(all[k], all[k + 1], all[k + 2]);
        }
        return x;
    }

    static int orderOf(int form, int a, int rel, int b) {
        return form + 2 * (a + 4 * (rel + 3 * b));
    }

    static boolean neighbours(int a, int b) {
        return Math.abs(a % 4 - b % 4) + Math.abs(a / 4 - b / 4) == 1;
    }

    static int feedText(TableArms x, String text) {
        int bytes = 0;
        for (int at = 0; at < text.length(); at += 8) {
            String part = text.substring(at, Math.min(at + 8, text.length()));
            long w = 0;
            for (int k = 0; k < part.length(); k++) {
                w = w << 8 | part.charAt(k);
            }
            bytes = x.feed(w, part.length());
        }
        return bytes;
    }

    static int read(TableArms x, String text) {
        feedText(x, text);
        return x.nevers();
    }

    static void fill(TableArms x, int sheet, int lane, int... items) {
        x.sheet(sheet, lane, items.length);
        for (int k = 0; k < items.length; k++) {
            x.set(sheet, k, items[k]);
        }
    }

    /** No call tells an item; but two arms at items that are the same cell have no way. */
    static void dueItems(TableArms x, int sheet, int lane, int... want) {
        x.sheet(SCRATCH, lane, 2);
        for (int k = 0; k < want.length; k++) {
            x.copy(sheet, k, SCRATCH, 1, 1);
            x.set(SCRATCH, 0, want[k]);
            dueOf("item " + k + " is " + want[k] + ": ways", x.ways(SCRATCH, 0, 1, 1), NONE);
        }
        dueOf("items of sheet " + sheet + ": set", x.set(sheet, want.length, 0), PLACE);
        x.drop(SCRATCH);
    }

    static void dueOn(TableArms x, int thing, int cell, int below) {
        dueOf("where(" + thing + ", 2)", x.where(thing, 2), cell);
        dueOf("where(" + thing + ", 3)", x.where(thing, 3), below);
        dueOf("where(" + thing + ", 4)", x.where(thing, 4), NONE);
    }

    static void dueIn(TableArms x, int thing, int box) {
        dueOf("where(" + thing + ", 3)", x.where(thing, 3), NONE);
        dueOf("where(" + thing + ", 4)", x.where(thing, 4), box);
        dueOf("where(" + box + ", 6)", x.where(box, 6), thing);
    }

    static void dueTrace(TableArms x, int... bodies) {
        for (int k = 0; k < bodies.length; k++) {
            dueOf("trace(" + k + ")", x.trace(k), bodies[k]);
        }
        for (int k = bodies.length; k < 17; k++) {
            dueOf("trace(" + k + ")", x.trace(k), NONE);
        }
    }
}
