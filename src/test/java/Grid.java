import java.lang.reflect.Method;
import java.util.ArrayList;
import java.util.Arrays;
import java.util.HashMap;
import java.util.List;
import java.util.Map;

/**
 * Every call with every choice of numbers at and beyond its edges, on an empty object, on one with some of all
 * and on a full one: TableArms and PlainModel must answer alike, status() too.
 */
public final class Grid {
    private static final int MIN = Integer.MIN_VALUE, MAX = Integer.MAX_VALUE, NONE = TableArms.NONE;
    /** What an object answers behind its 512th call is free; those of its scene count. */
    private static final int MOST_CALLS = 512;

    private static final int[] SHEETS = {MIN, -1, 0, 1, 2, 5, 7, 8, MAX};
    private static final int[] PLACES = {MIN, -1, 0, 1, 2, 39, 40, 41, MAX};
    private static final int[] THINGS = {MIN, -1, 0, 1, 2, 3, 4, 5, 6, MAX};
    private static final int[] ARMS = {MIN, -1, 0, 1, 2, MAX};
    private static final int[] TOS = {MIN, -1, 0, 1, 2, 3, 4, 5, 6, 7, 8, 9, 10, 11, 12, 13, 14, MAX};
    private static final int[] KEPT = {NONE, -1, 0, 1, 2, 3, 7, 8, MAX};
    private static final int[] ORDERS = {MIN, -1, 0, 1, 24, 25, 56, 57, 71, 94, 95, 96, MAX};
    private static final int[] TWO = {MIN, -1, 0, 1, 2, MAX};
    private static final int[] WHATS = {MIN, -1, 0, 1, 2, 3, 4, 5, 6, 7, 8, MAX};
    private static final int[] STEPS = {MIN, -1, 0, 1, 2, 12, 13, MAX};

    private TableArms real;
    private PlainModel model;
    private int calls;
    private static final Map<String, Method> methods = new HashMap<>();
    private static int asked;
    private static int wrong;

    public static void main(String[] args) throws Exception {
        for (String scene : new String[] {"empty", "some", "full"}) {
            askAll(scene);
        }
        System.out.println("Grid: " + (asked - wrong) + " passed, " + wrong + " failed");
        System.exit(wrong == 0 && asked > 0 ? 0 : 1);
    }

    private static void askAll(String scene) throws Exception {
        ask(scene, "sheet", SHEETS, new int[] {MIN, -1, 0, 1, 2, 3, MAX}, new int[] {MIN, -1, 0, 1, 40, 41, MAX});
        ask(scene, "set", SHEETS, PLACES, new int[] {MIN, -129, -128, -1, 0, 127, 128, 255, 256, 32767, 32768, 65535, MAX});
        int[] few = {MIN, -1, 0, 1, 40, MAX};
        ask(scene, "copy", new int[] {-1, 0, 1, 2, 5, 8}, few, new int[] {-1, 0, 1, 3, 5, 8}, few, few);
        ask(scene, "drop", SHEETS);
        ask(scene, "thing", new int[] {MIN, -1, 0, 2, 3, 4, MAX}, new int[] {MIN, -1, 0, 1, 20, 21, MAX},
                new int[] {MIN, -1, 0, 6, 7, 8, MAX});
        ask(scene, "where", THINGS, WHATS);
        ask(scene, "pile", new int[] {MIN, -1, 0, 1, 2, 3, 4, 5, 6, 7, 8, MAX}, new int[] {MIN, NONE, -2, -1, 0, 1, 2, 5, 6, MAX});
        ask(scene, "reach", ARMS, new int[] {MIN, -1, 0, 1, 127, 254, 255, 256, MAX});
        ask(scene, "move", ARMS, THINGS, TOS);
        ask(scene, "keep");
        ask(scene, "back", KEPT);
        ask(scene, "same", KEPT, KEPT);
        ask(scene, "order", ORDERS);
        ask(scene, "lesson", KEPT, KEPT, TWO, new int[] {MIN, -1, 0, 9, 10, MAX});
        ask(scene, "lessons", SHEETS, new int[] {MIN, -1, 0, 1, 24, 36, 37, MAX - 3, MAX}, new int[] {MIN, -1, 0, 1, 2, 4, 5, MAX});
        ask(scene, "unteach", new int[] {MIN, -1, 0, 1, 2, 3, 7, 8, MAX, 0});
        ask(scene, "fits", new int[] {MIN, NONE, -2, -1, 0, 1, 2, 95, 96, MAX});
        ask(scene, "barred", ORDERS, TWO);
        ask(scene, "question", TWO);
        ask(scene, "quarrel");
        ask(scene, "plan", ORDERS, TWO);
        ask(scene, "feed", new int[] {MIN, -1, 32, MAX}, new int[] {MIN, -1, 0, 1, 4, 7, 8, 9, MAX});
        ask(scene, "nevers");
        ask(scene, "fault");
        ask(scene, "broken");
        ask(scene, "let", ARMS, THINGS, TOS);
        ask(scene, "ways", SHEETS, PLACES, STEPS, STEPS);
        ask(scene, "kind", THINGS);
        ask(scene, "as", THINGS, WHATS);
        ask(scene, "ask", THINGS, TWO);
        ask(scene, "trace", new int[] {MIN, -1, 0, 1, 2, 3, 4, 5, 15, 16, MAX});
        ask(scene, "count", WHATS);
    }

    private static void ask(String scene, String name, int[]... values) throws Exception {
        Grid pair = new Grid(scene);
        int[] at = new int[values.length];
        boolean more = true;
        while (more) {
            if (pair.calls + 2 > MOST_CALLS) {
                pair = new Grid(scene);
            }
            int[] args = new int[values.length];
            for (int k = 0; k < args.length; k++) {
                args[k] = values[k][at[k]];
            }
            pair.call(name, args);
            pair.call("status");
            more = advance(at, values);
        }
    }

    /** The last number changes first, as figures do. */
    private static boolean advance(int[] at, int[][] values) {
        for (int k = at.length - 1; k >= 0; k--) {
            at[k]++;
            if (at[k] < values[k].length) {
                return true;
            }
            at[k] = 0;
        }
        return false;
    }

    private Grid(String scene) throws Exception {
        real = new TableArms();
        model = new PlainModel();
        if (!scene.equals("empty")) {
            layScene(scene.equals("full"));
        }
    }

    private void layScene(boolean full) throws Exception {
        int[][] things = {{0, 3, 0}, {2, 5, 1}, {3, 2, 2}, {1, 4, 0}, {2, 6, 6}, {0, 20, 7}};
        for (int k = 0; k < (full ? 6 : 5); k++) {
            call("thing", things[k]);
        }
        for (int k = 0; k < (full ? 8 : 3); k++) {
            call("keep");
            call("move", 0, k % 2 == 0 ? 2 : 3, k == 1 ? 12 : k);
        }
        for (int k = 0; k < (full ? 8 : 3); k++) {
            call("lesson", k % 3, (k + 1) % 3, k % 2, k);
        }
        call("unteach", 1);
        int items = full ? 40 : 3;
        for (int sheet = 0; sheet < (full ? 8 : 4); sheet++) {
            if (sheet != 5) {
                call("sheet", sheet, sheet % 3, items);
                call("set", sheet, 0, sheet);
                call("set", sheet, items - 1, 2);
            }
        }
        text("most 0 5;");
        for (int k = 0; full && k < 15; k++) {
            text("never cup at 0;");
        }
        text("most");
        for (int k = 0; k < (full ? 37 : 1); k++) {
            call("feed", ' ', 1 + 7 * (full ? 1 : 0));
        }
        call("reach", 1, 0x73);
        call("ask", 1, 1);
        call("as", 0, 3);
    }

    private void text(String text) throws Exception {
        for (int at = 0; at < text.length(); at += 4) {
            int w = 0;
            int end = Math.min(at + 4, text.length());
            for (int k = at; k < end; k++) {
                w = w << 8 | text.charAt(k);
            }
            call("feed", w, end - at);
        }
        call("nevers");
    }

    private void call(String name, int... args) throws Exception {
        calls++;
        Object[] boxed = new Object[args.length];
        for (int k = 0; k < args.length; k++) {
            boxed[k] = name.equals("feed") && k == 0 ? (Object) (long) args[k] : (Object) args[k];
        }
        Object got = methodOf(TableArms.class, name).invoke(real, boxed);
        Object want = methodOf(PlainModel.class, name).invoke(model, boxed);
        asked++;
        if (!got.equals(want)) {
            wrong++;
            if (wrong <= 10) {
                System.out.println(name + Arrays.toString(args) + " answered " + got + ", due is " + want);
            }
        }
    }

    private static Method methodOf(Class<?> type, String name) {
        return methods.computeIfAbsent(type.getName() + "." + name, key -> {
            List<Method> found = new ArrayList<>();
            for (Method m : type.getMethods()) {
                if (m.getName().equals(name)) {
                    m.setAccessible(true);
                    found.add(m);
                }
            }
            return found.get(0);
        });
    }
}
