import java.io.IOException;
import java.lang.reflect.Method;
import java.nio.file.Files;
import java.nio.file.Path;
import java.util.Arrays;
import java.util.HashMap;
import java.util.Map;
import java.util.regex.Matcher;
import java.util.regex.Pattern;

/** The examples of README.md: each line is read and called, and must answer what is written beside it. */
public final class ReadmeTests {
    private static final Pattern LINE = Pattern.compile("(?:int (\\w+) = )?(x\\.\\w+\\(.*\\)); *(?:// (-?\\d+)\\b.*)");
    private static final int LEAST_LINES = 30;

    private static int wrong = 0;
    private static int lines = 0;

    public static void main(String[] args) throws Exception {
        readBlocks(readme(Path.of(args[0])).split("\n"));
        if (lines < LEAST_LINES) {
            fault("only " + lines + " lines of examples");
        }
        System.out.println(wrong == 0 ? "readme: " + lines + " lines are as due" : wrong + " lines are not as due");
        if (wrong != 0) {
            System.exit(1);
        }
    }

    /** The file stands four directories above the class's source. */
    private static String readme(Path source) throws IOException {
        return Files.readString(source.toAbsolutePath().resolve("../../../../README.md").normalize());
    }

    private static void fault(String what) {
        wrong++;
        System.out.println("README.md: " + what);
    }

    private static void readBlocks(String[] text) throws Exception {
        Example example = null;
        for (String line : text) {
            if (line.equals("```java")) {
                example = new Example();
            } else if (line.startsWith("```")) {
                example = null;
            } else if (example != null && !line.equals("TypeCopier x = new TypeCopier();")) {
                lines++;
                example.call(line);
            }
        }
    }

    /** One block: an object of its own, and the names that its lines give to answers. */
    private static final class Example {
        private final TypeCopier x = new TypeCopier();
        private final Map<String, Integer> names = new HashMap<>();
        private String rest = "";

        void call(String line) throws Exception {
            Matcher parts = LINE.matcher(line);
            if (!parts.matches()) {
                fault("no call with an answer: " + line);
                return;
            }
            rest = parts.group(2);
            int answer = value();
            if (!rest.isEmpty() || answer != Integer.parseInt(parts.group(3))) {
                fault("answered " + answer + ": " + line);
            }
            if (parts.group(1) != null) {
                names.put(parts.group(1), answer);
            }
        }

        /** A number, a name, or a call whose arguments are such. */
        private int value() throws Exception {
            String word = take("-?[\\w.]+");
            if (!word.startsWith("x.")) {
                return names.containsKey(word) ? names.get(word) : Integer.parseInt(word);
            }
            take("\\(");
            Object[] given = new Object[5];
            int size = 0;
            while (!rest.startsWith(")")) {
                given[size++] = value();
                take("(, )?");
            }
            take("\\)");
            Class<?>[] types = new Class<?>[size];
            Arrays.fill(types, int.class);
            Method method = TypeCopier.class.getMethod(word.substring(2), types);
            return (Integer) method.invoke(x, Arrays.copyOf(given, size));
        }

        private String take(String pattern) {
            Matcher m = Pattern.compile(pattern).matcher(rest);
            if (!m.lookingAt()) {
                throw new IllegalStateException("README.md: not read: " + rest);
            }
            rest = rest.substring(m.end());
            return m.group();
        }
    }
}
