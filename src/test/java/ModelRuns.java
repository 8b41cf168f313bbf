import java.lang.reflect.Method;
import java.util.HashMap;
import java.util.Map;
import java.util.Random;

/** Long runs of calls with set seeds; TableArms and PlainModel must answer alike. */
public final class ModelRuns {
    private static final int CALLS = 512;
    private static final String[] NAMES = {"sheet", "set", "copy", "drop", "thing", "where", "pile", "reach",
        "move", "move", "move", "move", "keep", "back", "same", "order", "order", "lesson", "lesson", "lessons",
        "unteach", "fits", "fits", "barred", "question", "quarrel", "plan", "plan", "feed", "nevers", "fault",
        "broken", "let", "let", "ways", "kind", "as", "ask", "trace", "count", "status"};
    private static final String[] WORDS = {"never", "most", "cup", "cloth", "box", "lid", "on", "in", "beside", "at",
        ";", "0", "3", "7", "8", "12", "40", "007", "200", "201", "1234", "#", "Cup", "nevers", "\t", "5cup"};

    private final Random random;
    private final TableArms real = new TableArms();
    private final PlainModel model = new PlainModel();
    private final Map<String, Integer> answered;
    private final StringBuilder log = new StringBuilder();
    private int calls;
    private String wrong = "";

    private ModelRuns(long seed, Map<String, Integer> answered) {
        this.random = new Random(seed);
        this.answered = answered;
    }

    public static void main(String[] args) throws Exception {
        int runs = args.length > 0 ? Integer.parseInt(args[0]) : 400;
        int passed = 0, failed = 0;
        Map<String, Integer> answered = new HashMap<>();
        for (int seed = 0; seed < runs; seed++) {
            ModelRuns run = new ModelRuns(seed, answered);
            run.play();
            if (run.wrong.isEmpty()) {
                passed++;
            } else {
                failed++;
                System.out.println("seed " + seed + ": " + run.wrong);
            }
        }
        if (args.length > 1) {
            new java.util.TreeMap<>(answered).forEach((k, v) -> System.out.println(k + " " + v));
        }
        System.out.println("ModelRuns: " + passed + " passed, " + failed + " failed");
        System.exit(failed == 0 && passed > 0 ? 0 : 1);
    }

    private void play() throws Exception {
        int things = random.nextInt(7);
        for (int k = 0; k < things; k++) {
            call("thing", random.nextInt(4), 1 + random.nextInt(20), random.nextInt(8));
        }
        while (calls < CALLS && wrong.isEmpty()) {
            switch (random.nextInt(24)) {
                case 0 -> text();
                case 1 -> rows();
                case 2 -> teach();
                default -> single();
            }
        }
    }

    private void single() throws Exception {
        String name = NAMES[random.nextInt(NAMES.length)];
        Object[] args = switch (name) {
            case "sheet" -> ints(near(8), near(3), random.nextInt(12) == 0 ? near(42) : random.nextInt(41));
            case "set" -> ints(near(4), near(20), random.nextInt(3) == 0 ? random.nextInt() : near(10));
            case "copy" -> ints(near(4), near(20), near(4), near(20), near(20));
            case "drop" -> ints(near(8));
            case "thing" -> random.nextInt(4) > 0 ? ints(near(4), 0, near(8)) : ints(near(4), near(22), near(8));
            case "where" -> ints(near(6), near(7));
            case "pile" -> ints(near(8), near(5) - random.nextInt(2));
            case "reach" -> ints(near(2), random.nextInt(3) > 0 ? 255 : near(257));
            case "move", "let" -> ints(near(2), near(6), near(14));
            case "back", "kind" -> ints(near(6));
            case "same" -> ints(tableNumber(), tableNumber());
            case "order" -> ints(near(96));
            case "lesson" -> random.nextInt(3) > 0 ? ints(0, near(3), 0, near(10)) : ints(near(4), near(4), near(2), near(10));
            case "lessons" -> ints(near(4), near(20), near(5));
            case "unteach" -> ints(near(8));
            case "fits" -> ints(near(8) - random.nextInt(2));
            case "barred", "plan" -> ints(near(96), near(2));
            case "question" -> ints(near(2));
            case "feed" -> new Object[] {random.nextLong(), near(9)};
            case "ways" -> ints(near(4), near(6), near(6), near(6));
            case "as" -> ints(near(6), near(6));
            case "ask" -> ints(near(6), near(2));
            case "trace" -> ints(near(6));
            case "count" -> ints(near(8));
            default -> new Object[0];
        };
        call(name, args);
    }

    /** A start, a deed, an end, and a lesson of them: so that sets are neither empty nor whole. */
    private void teach() throws Exception {
        call("back", 0);
        call("order", random.nextInt(96));
        call("keep");
        call("lesson", 0, random.nextInt(8), random.nextInt(2), random.nextInt(10));
        call("fits", -1);
        call("question", random.nextInt(2));
        call("quarrel");
    }

    private void rows() throws Exception {
        int sheet = random.nextInt(8), n = 1 + random.nextInt(12), m = 1 + random.nextInt(12);
        call("sheet", sheet, random.nextInt(3), n + m);
        int cell = random.nextInt(8);
        for (int k = 0; k < n + m; k++) {
            if (k == n) {
                cell = random.nextInt(8);
            }
            call("set", sheet, k, cell);
            int next = random.nextInt(8);
            for (int t = 0; t < 12 && Math.abs(next % 4 - cell % 4) + Math.abs(next / 4 - cell / 4) != 1; t++) {
                next = random.nextInt(8);
            }
            cell = next;
        }
        call("ways", sheet, 0, n, m);
        call("ways", sheet, random.nextInt(3), 1 + random.nextInt(n), 1 + random.nextInt(m));
        call("status");
    }

    private void text() throws Exception {
        StringBuilder text = new StringBuilder();
        int many = random.nextInt(5);
        for (int k = 0; k < many; k++) {
            String sort = WORDS[2 + random.nextInt(4)];
            switch (random.nextInt(3)) {
                case 0 -> text.append("never ").append(sort).append(' ').append(WORDS[6 + random.nextInt(3)])
                        .append(' ').append(WORDS[2 + random.nextInt(4)]).append(';');
                case 1 -> text.append("most ").append(random.nextInt(8)).append(' ').append(random.nextInt(60)).append(";\n");
                default -> text.append("never ").append(sort).append(" at").append(random.nextInt(8)).append(" ; ");
            }
        }
        int spoilt = random.nextInt(4) == 0 ? 1 + random.nextInt(4) : 0;
        for (int k = 0; k < spoilt; k++) {
            int at = text.length() == 0 ? 0 : random.nextInt(text.length());
            text.insert(at, WORDS[random.nextInt(WORDS.length)]);
        }
        for (int at = 0; at < text.length(); ) {
            int n = Math.min(1 + random.nextInt(8), text.length() - at);
            long w = random.nextInt(4) == 0 ? -1 : 0;
            for (int k = 0; k < n; k++) {
                w = w << 8 | text.charAt(at + k);
            }
            call("feed", w, n);
            at += n;
        }
        call("count", 7);
        call("nevers");
        call("fault");
        call("broken");
        call("let", random.nextInt(2), random.nextInt(6), random.nextInt(8));
    }

    private int near(int bound) {
        int odd = random.nextInt(40);
        return odd == 0 ? -1 - random.nextInt(3) : odd == 1 ? bound + random.nextInt(3)
                : odd == 2 && random.nextInt(4) == 0 ? random.nextInt() : random.nextInt(bound);
    }

    private int tableNumber() {
        return random.nextInt(3) == 0 ? TableArms.NONE : near(5);
    }

    private static Object[] ints(int... all) {
        Object[] boxed = new Object[all.length];
        for (int k = 0; k < all.length; k++) {
            boxed[k] = all[k];
        }
        return boxed;
    }

    private void call(String name, Object... args) throws Exception {
        if (calls >= CALLS || !wrong.isEmpty()) {
            return;
        }
        calls++;
        Class<?>[] types = new Class<?>[args.length];
        for (int k = 0; k < args.length; k++) {
            types[k] = args[k] instanceof Long ? long.class : int.class;
        }
        if (name.equals("feed") && types.length == 2) {
            types[0] = long.class;
        }
        Method mine = TableArms.class.getMethod(name, types);
        Method due = PlainModel.class.getMethod(name, types);
        due.setAccessible(true);
        Object got = mine.invoke(real, args);
        Object want = due.invoke(model, args);
        String told = name + java.util.Arrays.toString(args) + " = " + want;
        log.append(told).append('\n');
        int v = (Integer) want;
        answered.merge(name + (v == TableArms.NONE ? " NONE" : v == TableArms.BAD ? " BAD" : v == TableArms.STATE ? " STATE"
                : v == TableArms.FULL ? " FULL" : v <= -1000100 ? " FAULT" : v < -1000010 ? " FINDING " + (-1000010 - v)
                : v == 0 ? " 0" : v < 5 ? " few" : " many"), 1, Integer::sum);
        if (!got.equals(want)) {
            wrong = told + ", answered " + got + ", behind\n" + log;
        }
    }
}
