import java.nio.charset.StandardCharsets;
import java.util.ArrayList;
import java.util.Arrays;
import java.util.HashSet;
import java.util.LinkedHashMap;
import java.util.List;
import java.util.Map;
import java.util.Set;

/**
 * The document once more, written for plainness alone: lists, copies of whole tables, every set
 * tried. ModelRuns holds the class against it.
 */
final class PlainModel {
    static final int NONE = -1000000, BAD = -1000001, STATE = -1000002, FULL = -1000003;
    private static final List<String> SORTS = List.of("cup", "cloth", "box", "lid");
    private static final List<String> RELS = List.of("on", "in", "beside");

    /** Piles from below to above, and who is in which box. */
    private static final class World {
        final List<List<Integer>> piles = new ArrayList<>();
        final Map<Integer, Integer> contents = new LinkedHashMap<>();

        World() {
            for (int c = 0; c < 8; c++) {
                piles.add(new ArrayList<>());
            }
        }

        World twin() {
            World w = new World();
            for (int c = 0; c < 8; c++) {
                w.piles.get(c).addAll(piles.get(c));
            }
            w.contents.putAll(contents);
            return w;
        }

        boolean equalTo(World w) {
            return piles.equals(w.piles) && contents.equals(w.contents);
        }

        String text() {
            StringBuilder b = new StringBuilder(piles.toString());
            for (int box = 0; box < 6; box++) {
                b.append(' ').append(contents.get(box));
            }
            return b.toString();
        }

        Integer boxWith(int t) {
            for (Map.Entry<Integer, Integer> e : contents.entrySet()) {
                if (e.getValue() == t) {
                    return e.getKey();
                }
            }
            return null;
        }

        int pileCell(int t) {
            for (int c = 0; c < 8; c++) {
                if (piles.get(c).contains(t)) {
                    return c;
                }
            }
            return -1;
        }

        int cell(int t) {
            Integer box = boxWith(t);
            return pileCell(box == null ? t : box);
        }

        boolean clear(int t) {
            int c = pileCell(t);
            return c >= 0 && piles.get(c).get(piles.get(c).size() - 1) == t;
        }

        boolean movable(int t) {
            Integer box = boxWith(t);
            return clear(t) || box != null && clear(box);
        }

        void remove(int t) {
            for (List<Integer> p : piles) {
                p.remove((Integer) t);
            }
            Integer box = boxWith(t);
            if (box != null) {
                contents.remove(box);
            }
        }
    }

    private record Lesson(int start, int end, int no, int teacher) {
    }

    private record Never(String form, int p, int q, int r) {
    }

    private final int[][] sheets = new int[8][];
    private final int[] lanes = new int[8];
    private final List<int[]> things = new ArrayList<>();
    private World world = new World();
    private final int[] reach = {255, 255};
    private final List<World> kept = new ArrayList<>();
    private final List<Lesson> lessons = new ArrayList<>();
    private final Set<Integer> takenBack = new HashSet<>();
    private final List<Never> nevers = new ArrayList<>();
    private final StringBuilder tape = new StringBuilder();
    private int latestFault;
    private final List<Integer> trace = new ArrayList<>();
    private int status;

    private static boolean in(int v, int low, int high) {
        return v >= low && v <= high;
    }

    private int finding(int number) {
        status = number;
        return -1000010 - number;
    }

    private int fine(int answer) {
        status = 0;
        return answer;
    }

    public int sheet(int sheet, int lane, int n) {
        if (!in(sheet, 0, 7) || !in(lane, 0, 2) || n > 40) {
            return BAD;
        }
        if (n < 0) {
            return finding(4);
        }
        sheets[sheet] = new int[n];
        lanes[sheet] = lane;
        return fine(n);
    }

    public int set(int sheet, int i, int v) {
        if (!in(sheet, 0, 7)) {
            return BAD;
        }
        if (sheets[sheet] == null) {
            return finding(1);
        }
        if (!in(i, 0, sheets[sheet].length - 1)) {
            return finding(2);
        }
        int unused = 32 - (8 << lanes[sheet]);
        sheets[sheet][i] = v << unused >> unused;
        return fine(sheets[sheet][i]);
    }

    public int copy(int a, int i, int b, int j, int n) {
        if (!in(a, 0, 7) || !in(b, 0, 7)) {
            return BAD;
        }
        if (sheets[a] == null || sheets[b] == null) {
            return finding(1);
        }
        if (lanes[a] != lanes[b]) {
            return finding(5);
        }
        if (i < 0 || j < 0 || n < 0 || (long) i + n > sheets[a].length || (long) j + n > sheets[b].length) {
            return finding(2);
        }
        int[] ahead = Arrays.copyOfRange(sheets[a], i, i + n);
        for (int k = 0; k < n; k++) {
            sheets[b][j + k] = ahead[k];
        }
        return fine(n);
    }

    public int drop(int sheet) {
        if (!in(sheet, 0, 7)) {
            return BAD;
        }
        if (sheets[sheet] == null) {
            return finding(1);
        }
        int had = sheets[sheet].length;
        sheets[sheet] = null;
        return fine(had);
    }

    private boolean isThing(int t) {
        return in(t, 0, things.size() - 1);
    }

    private int sort(int t) {
        return things.get(t)[0];
    }

    private int weight(int t) {
        return things.get(t)[1];
    }

    public int thing(int sort, int weight, int cell) {
        if (!in(sort, 0, 3) || !in(weight, 1, 20) || !in(cell, 0, 7)) {
            return BAD;
        }
        if (things.size() == 6) {
            return FULL;
        }
        things.add(new int[] {sort, weight});
        world.piles.get(cell).add(things.size() - 1);
        for (World w : kept) {
            w.piles.get(cell).add(things.size() - 1);
        }
        return things.size() - 1;
    }

    public int where(int t, int what) {
        if (!isThing(t) || !in(what, 0, 6)) {
            return BAD;
        }
        Integer box = world.boxWith(t);
        Integer held = world.contents.get(t);
        int[] answers = {sort(t), weight(t), world.cell(t),
            box != null ? NONE : world.piles.get(world.cell(t)).indexOf(t),
            box != null ? box : NONE, world.clear(t) ? 1 : 0, held != null ? held : NONE};
        return answers[what];
    }

    public int pile(int cell, int i) {
        if (!in(cell, 0, 7) || i < -1) {
            return BAD;
        }
        List<Integer> p = world.piles.get(cell);
        return i == -1 ? p.size() : i < p.size() ? p.get(i) : NONE;
    }

    public int reach(int arm, int set) {
        if (!in(arm, 0, 1) || !in(set, 0, 255)) {
            return BAD;
        }
        int was = reach[arm];
        reach[arm] = set;
        return was;
    }

    /** The table behind a move, or null where it cannot be. */
    private World behind(World w, int t, int to) {
        if (!w.movable(t)) {
            return null;
        }
        World next = w.twin();
        if (to < 8) {
            next.remove(t);
            next.piles.get(to).add(t);
            return next;
        }
        int box = to - 8;
        if (!isThing(box) || sort(box) != 2 || box == t || sort(t) == 2 || !w.clear(box) || w.contents.containsKey(box)) {
            return null;
        }
        next.remove(t);
        next.contents.put(box, t);
        return next;
    }

    private boolean reaches(int arm, World w, int t, int to) {
        int target = to < 8 ? to : w.cell(to - 8);
        return (reach[arm] >> w.cell(t) & 1) == 1 && (reach[arm] >> target & 1) == 1;
    }

    private int refusal(int arm, int t, int to) {
        if (!in(arm, 0, 1) || !isThing(t) || !in(to, 0, 13)) {
            return BAD;
        }
        if (to >= 8 && (!isThing(to - 8) || sort(to - 8) != 2)) {
            return BAD;
        }
        return behind(world, t, to) == null || !reaches(arm, world, t, to) ? STATE : 1;
    }

    public int move(int arm, int t, int to) {
        int r = refusal(arm, t, to);
        if (r == 1) {
            world = behind(world, t, to);
        }
        return r;
    }

    public int keep() {
        if (kept.size() == 8) {
            return FULL;
        }
        kept.add(world.twin());
        return kept.size() - 1;
    }

    public int back(int k) {
        if (!in(k, 0, kept.size() - 1)) {
            return BAD;
        }
        world = kept.get(k).twin();
        return 1;
    }

    public int same(int a, int b) {
        for (int k : new int[] {a, b}) {
            if (k != NONE && !in(k, 0, kept.size() - 1)) {
                return BAD;
            }
        }
        World first = a == NONE ? world : kept.get(a);
        World second = b == NONE ? world : kept.get(b);
        return first.equalTo(second) ? 1 : 0;
    }

    private static boolean neighbours(int a, int b) {
        return Math.abs(a % 4 - b % 4) + Math.abs(a / 4 - b / 4) == 1;
    }

    private boolean asTold(World w, int t, int rel, int b) {
        if (rel == 1) {
            return b == 2 && w.boxWith(t) != null;
        }
        int c = w.pileCell(t);
        if (c < 0) {
            return false;
        }
        int place = w.piles.get(c).indexOf(t);
        if (rel == 0) {
            return place > 0 && sort(w.piles.get(c).get(place - 1)) == b;
        }
        for (int d = 0; d < 8 && place == 0; d++) {
            for (int other : w.piles.get(d)) {
                if (neighbours(c, d) && sort(other) == b) {
                    return true;
                }
            }
        }
        return false;
    }

    private World put(World w, int t, int rel, int b) {
        for (int o = 0; o < things.size(); o++) {
            if (rel == 0 && sort(o) == b && o != t && w.clear(o)) {
                return behind(w, t, w.cell(o));
            }
            if (rel == 1 && b == 2 && sort(o) == 2 && w.clear(o) && w.contents.get(o) == null) {
                return behind(w, t, 8 + o);
            }
            if (rel == 2 && sort(o) == b && o != t && w.boxWith(o) == null) {
                for (int c = 0; c < 8; c++) {
                    if (neighbours(c, w.cell(o)) && w.piles.get(c).isEmpty()) {
                        return behind(w, t, c);
                    }
                }
                return null;
            }
        }
        return null;
    }

    private int movedBefore;

    /** The table that an order gives, or null where it fails. */
    private World done(int order, World start) {
        int form = order % 2, a = order / 2 % 4, rel = order / 8 % 3, b = order / 24;
        movedBefore = 0;
        World w = start;
        boolean such = false;
        for (int t = 0; t < things.size(); t++) {
            if (sort(t) != a || asTold(w, t, rel, b)) {
                continue;
            }
            if (form == 0) {
                if (w.movable(t)) {
                    movedBefore = 1;
                    return put(w, t, rel, b);
                }
                continue;
            }
            such = true;
            World next = put(w, t, rel, b);
            if (next != null) {
                w = next;
                movedBefore++;
            }
        }
        return form == 0 || such && movedBefore == 0 ? null : w;
    }

    public int order(int order) {
        if (!in(order, 0, 95)) {
            return BAD;
        }
        World w = done(order, world);
        if (w == null) {
            return STATE;
        }
        world = w.twin();
        return movedBefore;
    }

    public int lesson(int start, int end, int no, int teacher) {
        int last = kept.size() - 1;
        if (!in(start, 0, last) || !in(end, 0, last) || !in(no, 0, 1) || !in(teacher, 0, 9)) {
            return BAD;
        }
        if (lessons.size() == 8) {
            return FULL;
        }
        lessons.add(new Lesson(start, end, no, teacher));
        return lessons.size() - 1;
    }

    public int lessons(int sheet, int i, int n) {
        if (!in(sheet, 0, 7) || !in(n, 1, 4)) {
            return BAD;
        }
        if (sheets[sheet] == null) {
            return finding(1);
        }
        if (i < 0 || (long) i + 4 * n > sheets[sheet].length) {
            return finding(2);
        }
        int before = lessons.size();
        for (int k = i; k < i + 4 * n; k += 4) {
            int[] s = sheets[sheet];
            lesson(s[k], s[k + 1], s[k + 2], s[k + 3]);
        }
        return fine(lessons.size() - before);
    }

    public int unteach(int lesson) {
        if (!in(lesson, 0, lessons.size() - 1)) {
            return BAD;
        }
        return takenBack.add(lesson) ? 1 : STATE;
    }

    private boolean bars(int l, int order) {
        Lesson lesson = lessons.get(l);
        World given = done(order, kept.get(lesson.start));
        boolean does = given != null && given.equalTo(kept.get(lesson.end));
        return lesson.no == 1 ? does : !does;
    }

    private List<Integer> fitting(int without) {
        List<Integer> all = new ArrayList<>();
        for (int order = 0; order < 96; order++) {
            boolean fits = true;
            for (int l = 0; l < lessons.size() && fits; l++) {
                boolean stands = !takenBack.contains(l) && (without >> l & 1) == 0;
                fits = !stands || !bars(l, order);
            }
            if (fits) {
                all.add(order);
            }
        }
        return all;
    }

    public int fits(int i) {
        if (i < -1) {
            return BAD;
        }
        List<Integer> all = fitting(0);
        return i == -1 ? all.size() : i < all.size() ? all.get(i) : NONE;
    }

    public int barred(int order, int what) {
        if (!in(order, 0, 95) || !in(what, 0, 1)) {
            return BAD;
        }
        for (int l = 0; l < lessons.size(); l++) {
            if (!takenBack.contains(l) && bars(l, order)) {
                return what == 0 ? l : lessons.get(l).teacher;
            }
        }
        return NONE;
    }

    public int question(int what) {
        if (!in(what, 0, 1)) {
            return BAD;
        }
        List<Integer> all = fitting(0);
        List<Integer> sizes = new ArrayList<>();
        for (World start : kept) {
            Set<String> given = new HashSet<>();
            for (int order : all) {
                World w = done(order, start);
                given.add(w == null ? "fails" : w.text());
            }
            sizes.add(given.size());
        }
        int most = 0;
        for (int size : sizes) {
            most = Math.max(most, size);
        }
        return what == 1 ? most : sizes.isEmpty() ? NONE : sizes.indexOf(most);
    }

    public int quarrel() {
        for (int many = 0; many <= lessons.size(); many++) {
            for (int set = 0; set < 1 << lessons.size(); set++) {
                boolean allStand = true;
                for (int l = 0; l < lessons.size(); l++) {
                    allStand &= (set >> l & 1) == 0 || !takenBack.contains(l);
                }
                if (allStand && Integer.bitCount(set) == many && !fitting(set).isEmpty()) {
                    return set;
                }
            }
        }
        return NONE;
    }

    private boolean ended(int order, World w) {
        int each = order % 2, a = order / 2 % 4, rel = order / 8 % 3, b = order / 24;
        int some = 0, told = 0;
        for (int t = 0; t < things.size(); t++) {
            if (sort(t) == a) {
                some++;
                told += asTold(w, t, rel, b) ? 1 : 0;
            }
        }
        return each == 1 ? some > 0 && told == some : told > 0;
    }

    private List<Integer> movesOn(World w) {
        List<Integer> all = new ArrayList<>();
        for (int t = 0; t < things.size(); t++) {
            for (int to = 0; to < 14; to++) {
                if (behind(w, t, to) != null && (reaches(0, w, t, to) || reaches(1, w, t, to))) {
                    all.add(16 * t + to);
                }
            }
        }
        return all;
    }

    public int plan(int order, int what) {
        if (!in(order, 0, 95) || !in(what, 0, 1)) {
            return BAD;
        }
        if (ended(order, world)) {
            return what == 0 ? 0 : NONE;
        }
        for (int m : movesOn(world)) {
            if (ended(order, behind(world, m / 16, m % 16))) {
                return what == 0 ? 1 : m;
            }
        }
        for (int m : movesOn(world)) {
            World middle = behind(world, m / 16, m % 16);
            for (int second : movesOn(middle)) {
                if (ended(order, behind(middle, second / 16, second % 16))) {
                    return what == 0 ? 2 : m;
                }
            }
        }
        return NONE;
    }

    public int feed(long w, int n) {
        if (!in(n, 1, 8)) {
            return BAD;
        }
        if (tape.length() + n > 300) {
            return FULL;
        }
        for (int k = n; k > 0; k--) {
            tape.append((char) (w >>> 8 * (k - 1) & 255));
        }
        return tape.length();
    }

    private record Token(String text, int at) {
        boolean number() {
            return text.matches("[0-9]{1,3}");
        }
    }

    private static List<Token> tokens(String text) {
        List<Token> all = new ArrayList<>();
        java.util.regex.Matcher m = java.util.regex.Pattern
                .compile("[a-z]+|[0-9]+|[^ \n]", java.util.regex.Pattern.DOTALL).matcher(text);
        while (m.find()) {
            all.add(new Token(m.group(), m.start()));
        }
        all.add(new Token("", text.length()));
        return all;
    }

    public int nevers() {
        List<Token> all = tokens(tape.toString());
        tape.setLength(0);
        List<Never> fresh = new ArrayList<>();
        int at = 0;
        while (!all.get(at).text.isEmpty()) {
            String head = all.get(at).text;
            if (!head.equals("never") && !head.equals("most")) {
                return faulty(1, all.get(at));
            }
            if (nevers.size() + fresh.size() == 16) {
                return faulty(3, all.get(at));
            }
            List<String> shape = head.equals("most") ? List.of("cell", "load", ";")
                    : all.size() > at + 2 && all.get(at + 2).text.equals("at") ? List.of("sort", "at", "cell", ";")
                    : List.of("sort", "rel", "sort", ";");
            List<Integer> values = new ArrayList<>();
            for (String wanted : shape) {
                at++;
                Token token = all.get(at);
                boolean figures = wanted.equals("cell") || wanted.equals("load");
                int value = figures ? (token.number() ? Integer.parseInt(token.text) : -1)
                        : wanted.equals("sort") ? SORTS.indexOf(token.text)
                        : wanted.equals("rel") ? RELS.indexOf(token.text)
                        : token.text.equals(wanted) ? 0 : -1;
                if (value < 0) {
                    return faulty(1, token);
                }
                if (figures && value > (wanted.equals("cell") ? 7 : 200)) {
                    return faulty(2, token);
                }
                values.add(value);
            }
            String form = head.equals("most") ? "most" : shape.contains("at") ? "at" : "rel";
            fresh.add(new Never(form, values.get(0), values.get(1), values.get(2)));
            at++;
        }
        nevers.addAll(fresh);
        return nevers.size();
    }

    private int faulty(int number, Token token) {
        latestFault = number;
        return -1000100 - token.at;
    }

    public int fault() {
        return latestFault;
    }

    private int brokenOn(World w) {
        int all = 0;
        for (Never never : nevers) {
            boolean hurt = false;
            int load = 0;
            for (int t = 0; t < things.size(); t++) {
                switch (never.form) {
                    case "rel" -> hurt |= sort(t) == never.p && asTold(w, t, never.q, never.r);
                    case "at" -> hurt |= sort(t) == never.p && w.piles.get(never.r).contains(t);
                    default -> load += w.cell(t) == never.p ? weight(t) : 0;
                }
            }
            all += hurt || never.form.equals("most") && load > never.q ? 1 : 0;
        }
        return all;
    }

    public int broken() {
        return brokenOn(world);
    }

    public int let(int arm, int t, int to) {
        int r = refusal(arm, t, to);
        if (r != 1) {
            return r;
        }
        boolean safe = brokenOn(behind(world, t, to)) == 0;
        for (int c = 0; c < 8; c++) {
            if (to < 8 && neighbours(to, c)) {
                safe &= brokenOn(behind(world, t, c)) == 0;
            }
        }
        return safe ? 1 : 0;
    }

    /** Tick by tick, all pairs of places that the arms can be at. */
    public int ways(int sheet, int i, int n, int m) {
        if (!in(sheet, 0, 7) || !in(n, 1, 12) || !in(m, 1, 12)) {
            return BAD;
        }
        if (sheets[sheet] == null) {
            return finding(1);
        }
        if (i < 0 || (long) i + n + m > sheets[sheet].length) {
            return finding(2);
        }
        int[] one = Arrays.copyOfRange(sheets[sheet], i, i + n);
        int[] two = Arrays.copyOfRange(sheets[sheet], i + n, i + n + m);
        for (int[] row : List.of(one, two)) {
            for (int k = 0; k < row.length; k++) {
                if (!in(row[k], 0, 7) || k > 0 && row[k] != row[k - 1] && !neighbours(row[k], row[k - 1])) {
                    return BAD;
                }
            }
        }
        Set<Integer> at = new HashSet<>();
        if (one[0] != two[0]) {
            at.add(0);
        }
        for (int tick = 0; tick < 60; tick++) {
            if (at.contains((n - 1) * 100 + m - 1)) {
                return fine(tick);
            }
            Set<Integer> next = new HashSet<>();
            for (int pair : at) {
                for (int go = 0; go < 4; go++) {
                    int p = pair / 100, q = pair % 100, p2 = p + go % 2, q2 = q + go / 2;
                    if (p2 < n && q2 < m && one[p2] != two[q2] && !(one[p2] == two[q] && two[q2] == one[p])) {
                        next.add(p2 * 100 + q2);
                    }
                }
            }
            at = next;
        }
        return fine(NONE);
    }

    private List<Integer> kinds(int t) {
        List<Integer> all = new ArrayList<>();
        int c = world.pileCell(t);
        if (sort(t) == 2 && c >= 0) {
            List<Integer> p = world.piles.get(c);
            int above = p.indexOf(t) + 1;
            if (above < p.size() && sort(p.get(above)) == 3) {
                all.add(4);
            }
        }
        all.add(new int[] {1, 2, 3, 5}[sort(t)]);
        all.add(0);
        return all;
    }

    public int kind(int t) {
        return isThing(t) ? kinds(t).get(0) : BAD;
    }

    public int as(int t, int kind) {
        if (!isThing(t) || !in(kind, 0, 5)) {
            return BAD;
        }
        return kinds(t).contains(kind) ? fine(weight(t)) : finding(3);
    }

    public int ask(int t, int what) {
        if (!isThing(t) || !in(what, 0, 1)) {
            return BAD;
        }
        trace.clear();
        return asked(t, what);
    }

    private int asked(int t, int what) {
        Map<Integer, Integer> bodies = what == 0 ? Map.of(0, 10, 1, 11, 3, 12, 4, 13, 5, 14)
                : Map.of(0, 20, 1, 21, 4, 22, 2, 23);
        for (int kind : kinds(t)) {
            if (bodies.containsKey(kind)) {
                return body(t, bodies.get(kind));
            }
        }
        return 0;
    }

    private int body(int t, int number) {
        if (trace.size() < 16) {
            trace.add(number);
        }
        return switch (number) {
            case 10 -> weight(t);
            case 11 -> body(t, 10) + asked(t, 1);
            case 12 -> body(t, 10) + (world.contents.get(t) == null ? 0 : weight(world.contents.get(t)));
            case 13 -> body(t, 12) * 2;
            case 14 -> body(t, 10) + Math.max(0, where(t, 3));
            case 20 -> t;
            case 21 -> body(t, 20) + (world.clear(t) ? 100 : 0);
            case 22 -> body(t, 20) + asked(t, 0);
            default -> body(t, 20) + 1000;
        };
    }

    public int trace(int i) {
        return in(i, 0, trace.size() - 1) ? trace.get(i) : NONE;
    }

    public int count(int what) {
        int shut = 0, clear = 0, there = 0;
        for (int t = 0; t < things.size(); t++) {
            shut += kinds(t).contains(4) ? 1 : 0;
            clear += world.clear(t) ? 1 : 0;
        }
        for (int[] sheet : sheets) {
            there += sheet == null ? 0 : 1;
        }
        int[] all = {there, things.size(), kept.size(), lessons.size() - takenBack.size(), nevers.size(),
            shut, clear, tape.toString().getBytes(StandardCharsets.ISO_8859_1).length};
        return in(what, 0, 7) ? all[what] : BAD;
    }

    public int status() {
        return status;
    }
}
