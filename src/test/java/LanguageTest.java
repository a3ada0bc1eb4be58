import java.lang.reflect.Constructor;
import java.lang.reflect.Field;
import java.lang.reflect.Method;
import java.lang.reflect.Modifier;
import java.nio.file.Files;
import java.nio.file.Path;
import java.util.HashSet;
import java.util.Set;
import java.util.TreeSet;
import java.util.regex.Matcher;
import java.util.regex.Pattern;

/** The public face, and what ../shared/LANGUAGE.md leaves out, as far as it can be seen from outside. */
public final class LanguageTest {
    private static final Path SOURCE = Path.of("src/main/java/PapersEarly.java");
    private static final String FACE = "int house(int,int,int); int set(int,int,int); int bag(int,int); int told(int,int);"
        + " int swap(int,int); int feed(int); int text(); int force(int); int at(int,int); int round(int);"
        + " int shifted(int,int); int where(int,int); int best(int,int); int arrange(int); int ways(int);"
        + " int begin(); int heap(int); int split(int); int drop(int); int away(int,int); int judge(int);"
        + " int thrownBy(int,int); long chance(int,int,int,int); int image(); int back(); int count(int);"
        + " int sheet(int,int,int); int cell(int,int,int); int copy(int,int,int,int,int);"
        + " int houses(int,int,int,int); int taken(int,int)";
    private static final Due due = new Due("LanguageTest");

    public static void main(String[] args) throws Exception {
        face();
        namesInside();
        classesInside();
        String code = Files.readString(SOURCE).replaceAll("(?s)/\\*.*?\\*/", "").replaceAll("//[^\n]*", "");
        words(code);
        methodsAreShort(code);
        due.end();
    }

    private static void face() {
        Set<String> want = new TreeSet<>(Set.of(FACE.split("; ?")));
        Set<String> got = new TreeSet<>();
        for (Method m : PapersEarly.class.getDeclaredMethods()) {
            if (Modifier.isPrivate(m.getModifiers()) || m.isSynthetic()) continue;
            StringBuilder parameters = new StringBuilder();
            for (Class<?> p : m.getParameterTypes()) {
                parameters.append(parameters.length() == 0 ? "" : ",").append(p.getSimpleName());
            }
            got.add(m.getReturnType().getSimpleName() + " " + m.getName() + "(" + parameters + ")");
            due.holds(m + " is public and not static",
                Modifier.isPublic(m.getModifiers()) && !Modifier.isStatic(m.getModifiers()));
        }
        due.holds("the methods are those of the face: " + got, got.equals(want));
        Set<String> constants = new TreeSet<>();
        for (Field f : PapersEarly.class.getDeclaredFields()) {
            boolean ownConstant = Modifier.isStatic(f.getModifiers());
            due.holds(f + ": static fields are final", !ownConstant || Modifier.isFinal(f.getModifiers()));
            if (!Modifier.isPrivate(f.getModifiers())) constants.add(f.getName());
        }
        due.holds("the constants are those of the face: " + constants,
            constants.equals(Set.of("NONE", "BAD", "STATE", "FULL", "NO")));
        due.is("NONE", PapersEarly.NONE, -1);
        due.is("BAD", PapersEarly.BAD, -2);
        due.is("STATE", PapersEarly.STATE, -3);
        due.is("FULL", PapersEarly.FULL, -4);
        due.is("NO", PapersEarly.NO, -4611686018427387904L);
        Constructor<?>[] made = PapersEarly.class.getDeclaredConstructors();
        due.is("constructors", made.length, 1);
        due.is("its parameters", made[0].getParameterCount(), 0);
        due.holds("it is public", Modifier.isPublic(made[0].getModifiers()));
        due.holds("the class is public and final", Modifier.isFinal(PapersEarly.class.getModifiers())
            && Modifier.isPublic(PapersEarly.class.getModifiers()));
    }

    private static void namesInside() {
        Set<String> open = new HashSet<>();
        for (Method m : PapersEarly.class.getDeclaredMethods()) {
            if (Modifier.isPublic(m.getModifiers())) open.add(m.getName());
        }
        for (Method m : PapersEarly.class.getDeclaredMethods()) {
            due.holds(m + " bears no public method's name",
                Modifier.isPublic(m.getModifiers()) || !open.contains(m.getName()));
            due.holds(m + " has at most seven parameters", m.getParameterCount() <= 7);
        }
    }

    private static void classesInside() {
        Class<?>[] inside = PapersEarly.class.getDeclaredClasses();
        due.holds("at most twelve classes", inside.length + 1 <= 12);
        for (Class<?> c : inside) {
            due.holds(c + " is static", Modifier.isStatic(c.getModifiers()));
            due.holds(c + " is private or package-visible",
                !Modifier.isPublic(c.getModifiers()) && !Modifier.isProtected(c.getModifiers()));
            due.holds(c + " has some twenty fields at most", instanceFields(c) <= 20);
        }
        due.holds("PapersEarly has some twenty fields at most", instanceFields(PapersEarly.class) <= 20);
    }

    private static int instanceFields(Class<?> c) {
        int many = 0;
        for (Field f : c.getDeclaredFields()) {
            many += Modifier.isStatic(f.getModifiers()) ? 0 : 1;
        }
        return many;
    }

    private static void words(String code) {
        String[] left = {
            "throw", "throws", "try", "catch", "finally", "synchronized", "assert", "volatile", "transient", "native",
            "hashCode", "toString", "Object", "Exception", "Thread", "Random", "Override", "goto", "MAX_VALUE",
            "MIN_VALUE", "addExact", "multiplyExact", "System\\.(?!arraycopy)\\w+", "->", "::", "@"};
        for (String word : left) {
            String pattern = Character.isLetter(word.charAt(0)) ? "\\b" + word + "\\b" : word;
            due.holds("no " + word, !Pattern.compile(pattern).matcher(code).find());
        }
        Matcher imports = Pattern.compile("import ([^;]*);").matcher(code);
        while (imports.find()) {
            due.holds("import " + imports.group(1),
                Set.of("java.util.Arrays", "java.util.ArrayList", "java.util.List").contains(imports.group(1)));
        }
        due.holds("no package", !Pattern.compile("(?m)^package ").matcher(code).find());
        due.holds("no static block", !Pattern.compile("static\\s*\\{").matcher(code).find());
        due.holds("signs 10 and 32 to 126 alone", Pattern.matches("[\\n -~]*", code));
    }

    private static void methodsAreShort(String code) {
        String[] lines = code.split("\n", -1);
        int began = -1;
        for (int i = 0; i < lines.length; i++) {
            if (lines[i].matches(" {4}( {4})?[a-zA-Z].*\\) \\{")) began = i;
            if (began >= 0 && lines[i].equals(lines[began].replaceAll("\\S.*", "") + "}")) {
                due.holds(lines[began].trim() + " is of some sixty lines", i - began <= 60);
                began = -1;
            }
        }
    }
}
