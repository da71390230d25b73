import java.io.IOException;
import java.lang.reflect.Constructor;
import java.lang.reflect.Field;
import java.lang.reflect.Method;
import java.lang.reflect.Modifier;
import java.nio.file.Files;
import java.nio.file.Path;
import java.util.Arrays;
import java.util.Set;
import java.util.TreeSet;
import java.util.regex.Matcher;
import java.util.regex.Pattern;

/** The face is the document's and no more, and the source keeps to what can be seen of LANGUAGE.md by its words. */
public final class FaceTest {
    private static final String FACE = "world(int,int) put(int,int,int,int) field(int,int) product(int,int,int) "
        + "divides(int) broken(int,boolean) one(int) quotient(int,int,int,boolean) turn(int,int,int) "
        + "joins(int,int,int) many(int,int) unlike(int) map(int,int,int) gives(int,int) fits(int,int) "
        + "alike(int,int) carry(int,int) ways(int,int) on(int,int,int) join(int,int,int) meet(int,int,int) "
        + "bad(int) rank(int,int) ranks(int,int) cubes(int)";
    private static final String[] NOT_IN_SOURCE = {
        "\\bthrows?\\b", "\\btry\\b", "\\bcatch\\b", "\\bsynchronized\\b", "\\bassert\\b", "::",
        "(?m)^(?!.*\\b(case|default)\\b).*->", "\\bimport\\s+(?!java\\.util\\.(ArrayList|List|Iterator|Arrays);)",
        "\\bpackage\\b", "boolean equals\\(", "\\bhashCode\\b", "String toString\\(",
        "\\bgetClass\\b", "\\bSystem\\.(?!arraycopy)", "Exact\\b", "\\bnative\\b", "\\bvolatile\\b",
        "\\bstatic \\{", "\\[\\]\\[\\]\\[\\]"
    };
    private static int wrong = 0;

    public static void main(String[] args) throws IOException {
        face();
        source(Files.readString(Path.of(args.length > 0 ? args[0] : "src/main/java/CubeWorlds.java")));
        System.out.println(wrong == 0 ? "FaceTest: all is as due" : "FaceTest: " + wrong + " wrong");
        if (wrong != 0) {
            System.exit(1);
        }
    }

    private static void check(boolean holds, String what) {
        if (!holds) {
            wrong++;
            System.out.println(what);
        }
    }

    private static void face() {
        Class<?> c = CubeWorlds.class;
        check(c.getModifiers() == (Modifier.PUBLIC | Modifier.FINAL), "the class is public and final");
        check(c.getSuperclass() == Object.class && c.getInterfaces().length == 0, "it extends nothing");
        Constructor<?>[] makers = c.getDeclaredConstructors();
        check(makers.length == 1 && makers[0].getParameterCount() == 0
            && Modifier.isPublic(makers[0].getModifiers()), "one public constructor");
        Set<String> due = new TreeSet<>(Arrays.asList(FACE.split(" ")));
        Set<String> open = new TreeSet<>();
        Set<String> openNames = new TreeSet<>();
        for (Method m : c.getDeclaredMethods()) {
            if (!Modifier.isPrivate(m.getModifiers())) {
                check(m.getModifiers() == Modifier.PUBLIC && m.getReturnType() == int.class, "public int " + m);
                open.add(m.toString().replaceAll(".*CubeWorlds\\.", ""));
                openNames.add(m.getName());
            }
        }
        check(open.equals(due), "the methods are " + open);
        privateOnes(c, openNames);
        Set<String> constants = new TreeSet<>();
        for (Field f : c.getDeclaredFields()) {
            boolean isStatic = Modifier.isStatic(f.getModifiers());
            if (!Modifier.isPrivate(f.getModifiers())) {
                constants.add(f.getName());
                check(isStatic && Modifier.isPublic(f.getModifiers()) && f.getType() == int.class, "constant " + f);
            }
        }
        check(constants.equals(Set.of("UNKNOWN", "OUTSIDE", "STATE", "FULL", "NONE")), "the constants are " + constants);
    }

    private static void privateOnes(Class<?> c, Set<String> openNames) {
        for (Method m : c.getDeclaredMethods()) {
            check(!Modifier.isPrivate(m.getModifiers()) || !openNames.contains(m.getName()), "a public name: " + m);
            check(m.getParameterCount() <= 7, "too many parameters: " + m);
        }
        int fields = 0;
        for (Field f : c.getDeclaredFields()) {
            boolean isStatic = Modifier.isStatic(f.getModifiers());
            check(!isStatic || Modifier.isFinal(f.getModifiers()), "a static field is final: " + f);
            fields += isStatic ? 0 : 1;
        }
        check(fields <= 20, "too many fields: " + c);
        check(c.getDeclaredClasses().length <= 12, "too many classes in " + c);
        for (Class<?> inner : c.getDeclaredClasses()) {
            int open = Modifier.PUBLIC | Modifier.PROTECTED;
            check(Modifier.isStatic(inner.getModifiers()), "static: " + inner);
            check((inner.getModifiers() & open) == 0, "not public: " + inner);
            privateOnes(inner, openNames);
        }
    }

    private static void source(String text) {
        String code = text.replaceAll("(?s)/\\*.*?\\*/", "").replaceAll("//[^\n]*", "");
        for (String word : NOT_IN_SOURCE) {
            Matcher found = Pattern.compile(word).matcher(code);
            check(!found.find(), "the source has " + word);
        }
        methodsAreShort(text.split("\n"));
    }

    /** A method ends at the brace that stands as far in as it begins. */
    private static void methodsAreShort(String[] lines) {
        for (int start = 0; start < lines.length; start++) {
            String head = lines[start];
            String in = head.substring(0, head.length() - head.stripLeading().length());
            if (head.matches(" {4}( {4})?[A-Za-z].*\\) \\{") && !head.matches(" *(if|for|while|switch)\\b.*")) {
                int end = start;
                while (end < lines.length && !lines[end].equals(in + "}")) {
                    end++;
                }
                check(end - start <= 60, "a long method: " + head.strip());
            }
        }
    }
}
