import java.lang.reflect.Constructor;
import java.lang.reflect.Field;
import java.lang.reflect.Member;
import java.lang.reflect.Method;
import java.lang.reflect.Modifier;
import java.nio.file.Files;
import java.nio.file.Path;
import java.util.ArrayList;
import java.util.Arrays;
import java.util.List;
import java.util.Set;
import java.util.TreeSet;

/** The face is the document's and no more, and the source keeps to LANGUAGE.md where that can be seen. */
public final class Face {
    private static final List<String> METHODS = List.of("sheet(int,int,int)", "set(int,int,int)",
            "copy(int,int,int,int,int)", "drop(int)", "thing(int,int,int)", "where(int,int)", "pile(int,int)",
            "reach(int,int)", "move(int,int,int)", "keep()", "back(int)", "same(int,int)", "order(int)",
            "lesson(int,int,int,int)", "lessons(int,int,int)", "unteach(int)", "fits(int)", "barred(int,int)",
            "question(int)", "quarrel()", "plan(int,int)", "feed(long,int)", "nevers()", "fault()", "broken()",
            "let(int,int,int)", "ways(int,int,int,int)", "kind(int)", "as(int,int)", "ask(int,int)", "trace(int)",
            "count(int)", "status()");
    private static final List<String> CONSTANTS = List.of("NONE", "BAD", "STATE", "FULL");
    private static final String[] FORBIDDEN = {"throw", "throws", "try", "catch", "finally", "synchronized", "assert",
        "protected", "package", "Random", "Thread", "Exact", "hashCode", "toString", "native", "volatile"};
    private static final int MOST_CLASSES = 12, MOST_FIELDS = 20, MOST_PARAMETERS = 7, MOST_LINES = 60;

    private static int wrong = 0;

    private static void check(boolean holds, String what) {
        if (!holds) {
            wrong++;
            System.out.println("Face: " + what);
        }
    }

    public static void main(String[] args) throws Exception {
        faceIsTheDocuments();
        classesInside();
        source();
        System.out.println("Face: " + (wrong == 0 ? "1 passed, 0 failed" : "0 passed, 1 failed"));
        System.exit(wrong == 0 ? 0 : 1);
    }

    private static void faceIsTheDocuments() {
        Class<?> face = TableArms.class;
        check(Modifier.isPublic(face.getModifiers()) && Modifier.isFinal(face.getModifiers()), "not public and final");
        Set<String> there = new TreeSet<>();
        for (Method m : face.getDeclaredMethods()) {
            if (!Modifier.isPrivate(m.getModifiers())) {
                there.add(signature(m));
                check(m.getReturnType() == int.class && !Modifier.isStatic(m.getModifiers()), "wrong kind of " + m);
            }
        }
        check(there.equals(new TreeSet<>(METHODS)), "methods are " + there);
        Set<String> constants = new TreeSet<>();
        for (Field f : face.getDeclaredFields()) {
            if (!Modifier.isPrivate(f.getModifiers())) {
                constants.add(f.getName());
                check(Modifier.isStatic(f.getModifiers()) && Modifier.isFinal(f.getModifiers()), "no constant: " + f);
            }
        }
        check(constants.equals(new TreeSet<>(CONSTANTS)), "constants are " + constants);
        Constructor<?>[] made = face.getDeclaredConstructors();
        check(made.length == 1 && made[0].getParameterCount() == 0 && Modifier.isPublic(made[0].getModifiers()), "constructors");
    }

    private static String signature(Method m) {
        List<String> types = new ArrayList<>();
        for (Class<?> type : m.getParameterTypes()) {
            types.add(type.getName());
        }
        return m.getName() + "(" + String.join(",", types) + ")";
    }

    private static void classesInside() {
        List<Class<?>> all = new ArrayList<>(Arrays.asList(TableArms.class.getDeclaredClasses()));
        check(all.size() + 1 <= MOST_CLASSES, "more classes than " + MOST_CLASSES);
        Set<String> faceNames = new TreeSet<>();
        for (String m : METHODS) {
            faceNames.add(m.substring(0, m.indexOf('(')));
        }
        for (Class<?> c : all) {
            check(Modifier.isStatic(c.getModifiers()) && !Modifier.isPublic(c.getModifiers()), "not static: " + c);
            for (Method m : c.getDeclaredMethods()) {
                check(!faceNames.contains(m.getName()), "bears a public name: " + m);
            }
        }
        all.add(TableArms.class);
        for (Class<?> c : all) {
            int fields = 0;
            for (Field f : c.getDeclaredFields()) {
                fields += Modifier.isStatic(f.getModifiers()) ? 0 : 1;
                check(!Modifier.isStatic(f.getModifiers()) || Modifier.isFinal(f.getModifiers()), "static state: " + f);
            }
            check(fields <= MOST_FIELDS, "too many fields: " + c);
            for (Method m : c.getDeclaredMethods()) {
                check(m.getParameterCount() <= MOST_PARAMETERS, "too many parameters: " + m);
            }
            for (Member m : c.getDeclaredMethods()) {
                check(!m.isSynthetic(), "made by the compiler (a lambda, a bridge): " + m);
            }
        }
    }

    private static void source() throws Exception {
        String text = Files.readString(Path.of("src/main/java/TableArms.java"));
        String code = text.replaceAll("(?s)/\\*.*?\\*/", "").replaceAll("//[^\n]*", "");
        for (String word : FORBIDDEN) {
            check(!java.util.regex.Pattern.compile("\\b" + word + "\\b").matcher(code).find(), "the word " + word);
        }
        check(!code.contains("->") && !code.contains("::"), "a lambda or a method reference");
        for (String line : code.split("\n")) {
            check(!line.startsWith("import ") || line.equals("import java.util.Arrays;"), "imports: " + line);
        }
        methodsAreShort(code);
    }

    /** Methods of the face stand at four blanks, those of the classes inside at eight. */
    private static void methodsAreShort(String code) {
        int started = 0;
        String head = "";
        String[] lines = code.split("\n");
        for (int k = 0; k < lines.length; k++) {
            if (lines[k].matches("( {4}| {8})[a-zA-Z].*\\) \\{")) {
                started = k;
                head = lines[k].trim();
            } else if (lines[k].matches("( {4}| {8})\\}") && !head.isEmpty()) {
                check(k - started + 1 <= MOST_LINES, "long: " + head);
                head = "";
            }
        }
    }
}
