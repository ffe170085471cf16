import java.io.IOException;
import java.lang.reflect.Constructor;
import java.lang.reflect.Field;
import java.lang.reflect.Member;
import java.lang.reflect.Method;
import java.lang.reflect.Modifier;
import java.nio.file.Files;
import java.nio.file.Path;
import java.util.Set;
import java.util.TreeSet;
import java.util.regex.Matcher;
import java.util.regex.Pattern;

/** The public face as the document writes it, and those rules of LANGUAGE.md that can be seen from outside. */
public final class FaceTests {
    private static int wrong = 0;

    private static void demand(boolean holds, String what) {
        if (!holds) {
            wrong++;
            System.out.println("does not hold: " + what);
        }
    }

    public static void main(String[] args) throws IOException {
        face();
        nested();
        source(Files.readString(Path.of(args[0])));
        System.out.println(wrong == 0 ? "face: all is as due" : wrong + " are not as due");
        if (wrong != 0) {
            System.exit(1);
        }
    }

    private static void face() {
        Class<?> c = TypeCopier.class;
        demand(Modifier.isPublic(c.getModifiers()) && Modifier.isFinal(c.getModifiers()), "public final class");
        Set<String> methods = new TreeSet<>();
        for (Method m : c.getDeclaredMethods()) {
            if (!Modifier.isPrivate(m.getModifiers()) && !m.isSynthetic()) {
                StringBuilder sign = new StringBuilder(m.getReturnType() + " " + m.getName());
                for (Class<?> p : m.getParameterTypes()) {
                    sign.append(' ').append(p);
                }
                demand(Modifier.isPublic(m.getModifiers()) && !Modifier.isStatic(m.getModifiers()), sign.toString());
                methods.add(sign.toString());
            }
        }
        Set<String> wanted = new TreeSet<>(Set.of("int pair int int", "int list int", "int type int int",
            "int node int int int int int", "int function int int int", "int body int int"));
        wanted.addAll(Set.of("int typeIn int int", "int wrong int", "int reaches int int", "int judge", "int copies"));
        wanted.addAll(Set.of("int copy int int", "int input int", "int empty", "int run", "int runCopies"));
        wanted.addAll(Set.of("int result int", "int told int", "int count int", "long digest"));
        demand(methods.equals(wanted), "methods are " + methods);
        Set<String> fields = new TreeSet<>();
        for (Field f : c.getDeclaredFields()) {
            if (!Modifier.isPrivate(f.getModifiers())) {
                fields.add(Modifier.toString(f.getModifiers()) + " " + f.getType() + " " + f.getName());
            }
        }
        String constant = "public static final int ";
        demand(fields.equals(Set.of(constant + "NONE", constant + "BAD", constant + "NO", constant + "FULL")),
            "constants are " + fields);
        int[] constants = {TypeCopier.NONE, TypeCopier.BAD, TypeCopier.NO, TypeCopier.FULL};
        for (int i = 0; i < constants.length; i++) {
            demand(constants[i] == -1 - i, "constant " + i + " is " + (-1 - i) + ", not " + constants[i]);
        }
        for (Method m : c.getDeclaredMethods()) {
            if (Modifier.isPrivate(m.getModifiers())) {
                demand(wanted.stream().noneMatch(w -> w.split(" ")[1].equals(m.getName())), m + " bears no name of the face");
            }
        }
        staticFields(c);
        Constructor<?>[] made = c.getDeclaredConstructors();
        demand(made.length == 1 && Modifier.isPublic(made[0].getModifiers()) && made[0].getParameterCount() == 0,
            "one public constructor");
    }

    private static void staticFields(Class<?> c) {
        Set<Class<?>> allowed = Set.of(int.class, long.class, boolean.class, char.class, String.class, int[].class,
            long[].class, char[].class, byte[].class);
        for (Field f : c.getDeclaredFields()) {
            if (Modifier.isStatic(f.getModifiers())) {
                demand(Modifier.isFinal(f.getModifiers()) && allowed.contains(f.getType()), f + " is a constant");
                demand(!f.getType().isArray() || Modifier.isPrivate(f.getModifiers()), f + " is an array that none can change");
            }
        }
    }

    private static void nested() {
        Set<String> face = new TreeSet<>();
        for (Method m : TypeCopier.class.getDeclaredMethods()) {
            if (Modifier.isPublic(m.getModifiers())) {
                face.add(m.getName());
            }
        }
        Class<?>[] inside = TypeCopier.class.getDeclaredClasses();
        demand(inside.length <= 11, "some twelve classes in the file, not " + (inside.length + 1));
        for (Class<?> c : inside) {
            demand(Modifier.isStatic(c.getModifiers()), c + " is static");
            demand(!Modifier.isPublic(c.getModifiers()) && !Modifier.isProtected(c.getModifiers()), c + " is not public");
            staticFields(c);
            int fields = 0;
            for (Field f : c.getDeclaredFields()) {
                fields += Modifier.isStatic(f.getModifiers()) ? 0 : 1;
            }
            demand(fields <= 20, c + " has some twenty fields, not " + fields);
            for (Method m : c.getDeclaredMethods()) {
                demand(isNamedApart(m, face), m + " bears no name of the face");
                demand(m.getParameterCount() <= 7, m + " takes at most seven");
            }
        }
    }

    private static boolean isNamedApart(Member m, Set<String> face) {
        return !face.contains(m.getName());
    }

    private static void source(String text) {
        String code = text.replaceAll("(?s)/\\*.*?\\*/", "").replaceAll("//[^\n]*", "");
        String[] refused = {"\\bthrow\\b", "\\bthrows\\b", "\\btry\\b", "\\bcatch\\b", "\\bsynchronized\\b", "\\bassert\\b",
            "->", "::", "Exact\\(", "\\bpackage\\b", "@", "\"", "\\bSystem\\.(?!arraycopy)", "\\bThread\\b", "\\bRandom\\b",
            "\\bequals\\b", "\\bhashCode\\b", "\\btoString\\b", "\\bvar\\b"};
        for (String r : refused) {
            demand(!Pattern.compile(r).matcher(code).find(), "no " + r + " in the source");
        }
        Matcher imports = Pattern.compile("import ([^;]*);").matcher(code);
        while (imports.find()) {
            demand(Set.of("java.util.Arrays", "java.util.ArrayList", "java.util.List").contains(imports.group(1)),
                "import of " + imports.group(1));
        }
        demand(text.chars().allMatch(sign -> sign == '\n' || sign >= 32 && sign <= 126), "no sign beyond 126 in the source");
        methodLengths(text.split("\n"));
    }

    private static void methodLengths(String[] lines) {
        int begun = -1;
        String end = "";
        for (int i = 0; i < lines.length; i++) {
            String line = lines[i];
            String indent = line.substring(0, line.length() - line.stripLeading().length());
            boolean opens = line.endsWith(") {") && (indent.length() == 4 || indent.length() == 8);
            if (opens && begun < 0 && !line.strip().startsWith("if") && !line.strip().startsWith("for")) {
                begun = i;
                end = indent + "}";
            } else if (begun >= 0 && line.equals(end)) {
                demand(i - begun <= 60, "a method of some sixty lines, not " + (i - begun) + ": " + lines[begun].strip());
                begun = -1;
            }
        }
    }
}
