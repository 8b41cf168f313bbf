import java.lang.reflect.Constructor;
import java.lang.reflect.Field;
import java.lang.reflect.Method;
import java.lang.reflect.Modifier;
import java.nio.file.Files;
import java.nio.file.Path;
import java.util.ArrayList;
import java.util.List;
import java.util.Set;
import java.util.TreeSet;
import java.util.regex.Matcher;
import java.util.regex.Pattern;

/** The face is the document's and no more; the classes inside are closed and bear no name of it. */
public final class Face {
    private static final List<String> METHODS = List.of("sheet(int,int,int)", "set(int,int,int)",
            "copy(int,int,int,int,int)", "drop(int)", "thing(int,int,int)", "where(int,int)", "pile(int,int)",
            "reach(int,int)", "move(int,int,int)", "keep()", "back(int)", "same(int,int)", "order(int)",
            "lesson(int,int,int,int)", "lessons(int,int,int)", "unteach(int)", "fits(int)", "barred(int,int)",
            "question(int)", "quarrel()", "plan(int,int)", "feed(long,int)", "nevers()", "fault()", "broken()",
            "let(int,int,int)", "ways(int,int,int,int)", "kind(int)", "as(int,int)", "ask(int,int)", "trace(int)",
            "count(int)", "status()");
    private static final List<String> CONSTANTS = List.of("NONE", "BAD", "STATE", "FULL");
    private static final Path DOCUMENT = Path.of("../shared/DOC.md");

    private static int wrong = 0;

    private static void check(boolean holds, String what) {
        if (!holds) {
            wrong++;
            System.out.println("Face: " + what);
        }
    }

    public static void main(String[] args) throws Exception {
        faceIsTheDocuments();
        if (Files.isReadable(DOCUMENT)) {
            namesAreTheDocuments(Files.readString(DOCUMENT));
        }
        classesInside();
        System.out.println("Face: " + (wrong == 0 ? "1 passed, 0 failed" : "0 passed, 1 failed"));
        System.exit(wrong == 0 ? 0 : 1);
    }

    private static void faceIsTheDocuments() {
        Class<?> face = TableArms.class;
        check(Modifier.isPublic(face.getModifiers()) && Modifier.isFinal(face.getModifiers()), "not public and final");
        Set<String> there = new TreeSet<>();
        for (Method m : face.getDeclaredMethods()) {
            if (!Modifier.isPrivate(m.getModifiers())) {
                there.add(signature(m));
                check(m.getReturnType() == int.class && !Modifier.isStatic(m.getModifiers()), "wrong kind of " + m);
            }
        }
        check(there.equals(new TreeSet<>(METHODS)), "methods are " + there);
        Set<String> constants = new TreeSet<>();
        for (Field f : face.getDeclaredFields()) {
            if (!Modifier.isPrivate(f.getModifiers())) {
                constants.add(f.getName());
                check(Modifier.isStatic(f.getModifiers()) && Modifier.isFinal(f.getModifiers()), "no constant: " + f);
            }
        }
        check(constants.equals(new TreeSet<>(CONSTANTS)), "constants are " + constants);
        Constructor<?>[] made = face.getDeclaredConstructors();
        check(made.length == 1 && made[0].getParameterCount() == 0 && Modifier.isPublic(made[0].getModifiers()), "constructors");
    }

    /** The names above are held against the document's own block. */
    private static void namesAreTheDocuments(String document) throws Exception {
        String block = document.substring(document.indexOf("public final class TableArms {"), document.indexOf("## Terms"));
        Set<String> methods = new TreeSet<>();
        Matcher method = Pattern.compile("public int (\\w+\\([^)]*\\));").matcher(block);
        while (method.find()) {
            methods.add(method.group(1).replaceAll("(int|long) \\w+", "$1").replace(", ", ","));
        }
        check(methods.equals(new TreeSet<>(METHODS)), "the document has " + methods);
        Set<String> constants = new TreeSet<>();
        Matcher constant = Pattern.compile("([A-Z]+) = (-?\\d+)").matcher(block);
        while (constant.find()) {
            constants.add(constant.group(1));
            int value = TableArms.class.getField(constant.group(1)).getInt(null);
            check(value == Integer.parseInt(constant.group(2)), constant.group(1) + " is " + value);
        }
        check(constants.equals(new TreeSet<>(CONSTANTS)), "the document has " + constants);
    }

    private static String signature(Method m) {
        List<String> types = new ArrayList<>();
        for (Class<?> type : m.getParameterTypes()) {
            types.add(type.getName());
        }
        return m.getName() + "(" + String.join(",", types) + ")";
    }

    private static void classesInside() {
        Set<String> faceNames = new TreeSet<>();
        for (String m : METHODS) {
            faceNames.add(m.substring(0, m.indexOf('(')));
        }
        for (Class<?> c : TableArms.class.getDeclaredClasses()) {
            check(Modifier.isStatic(c.getModifiers()) && !Modifier.isPublic(c.getModifiers()), "not static: " + c);
            for (Method m : c.getDeclaredMethods()) {
                check(!faceNames.contains(m.getName()), "bears a public name: " + m);
            }
        }
    }
}
