import java.io.IOException;
import java.lang.reflect.Field;
import java.lang.reflect.Method;
import java.lang.reflect.Modifier;
import java.nio.file.DirectoryStream;
import java.nio.file.Files;
import java.nio.file.Path;
import java.util.ArrayList;
import java.util.List;
import java.util.regex.Matcher;
import java.util.regex.Pattern;

/** README.md: every call with its answers below 0, every constant and every test is in it, and its example holds. */
public final class ReadmeTest {
    private static final String[] BELOW = {"BAD", "SHUT", "FULL", "NOT"};
    private static final Pattern ROW = Pattern.compile("(?m)^\\| `(\\w+)\\(([\\w, ]*)\\)` \\| (.+) \\| (.+) \\|$");
    private static final Pattern STEP = Pattern.compile("(?m)^vault\\.(\\w+)\\(([-\\d, ]*)\\); +// (-?\\d+): .+$");
    private static final Pattern PROMISE = Pattern.compile("`(?:int|long) (\\w+)\\(([^)]*)\\)`: ([^\n]*)");

    private ReadmeTest() { }

    private static List<String> partsOf(String list) {
        return list.isBlank() ? List.of() : List.of(list.split(", *"));
    }

    private static Method callNamed(String name) {
        for (Method method : AuditVault.class.getDeclaredMethods()) {
            if (Modifier.isPublic(method.getModifiers()) && method.getName().equals(name)) {
                return method;
            }
        }
        return null;
    }

    private static void calls(String readme, String document) {
        List<String> told = new ArrayList<>();
        for (Matcher row = ROW.matcher(readme); row.find();) {
            told.add(row.group(1) + "(" + row.group(2) + ")");
            for (Matcher promise = PROMISE.matcher(document); promise.find();) {
                if (promise.group(1).equals(row.group(1))) {
                    answersBelow(row.group(1), row.group(4), promise.group(3));
                }
            }
        }
        int promises = 0;
        for (Matcher promise = PROMISE.matcher(document); promise.find(); promises++) {
            String call = promise.group(1) + "(" + promise.group(2).replaceAll("(int|long) ", "") + ")";
            Check.holds("README.md has a row for " + call, told.contains(call));
        }
        Check.due("calls of the document", promises, 32);
        Check.due("rows of calls in README.md", told.size(), 32);
    }

    /** A promise names its answers below 0 behind what it does, each at the beginning of a sentence or of a part. */
    private static void answersBelow(String name, String told, String promise) {
        for (String answer : BELOW) {
            boolean isPromised = promise.matches(".*[.;] " + answer + "[.;:].*");
            Check.holds("README.md, " + name + ", " + answer, told.contains("`" + answer + "`") == isPromised);
        }
    }

    private static void constants(String readme) throws IllegalAccessException {
        int constants = 0;
        for (Field field : AuditVault.class.getDeclaredFields()) {
            if (Modifier.isPublic(field.getModifiers())) {
                constants++;
                String row = "| `" + field.getName() + "` | " + field.getInt(null) + " | ";
                Check.holds("README.md has the row " + row, readme.contains(row));
            }
        }
        Check.due("constants", constants, 5);
    }

    private static void tests(String readme) throws IOException {
        try (DirectoryStream<Path> files = Files.newDirectoryStream(Path.of("src/test/java"), "*Test.java")) {
            for (Path file : files) {
                String name = file.getFileName().toString().replace(".java", "");
                Check.holds("README.md has a row for " + name, readme.contains("| `" + name + "` | "));
            }
        }
        Check.holds("README.md says how to run them", readme.contains("    .ci/run\n"));
    }

    private static void example(String readme) throws ReflectiveOperationException {
        AuditVault vault = new AuditVault();
        int steps = 0;
        for (Matcher step = STEP.matcher(readme); step.find(); steps++) {
            Object[] numbers = partsOf(step.group(2)).stream().map(Integer::valueOf).toArray();
            Method call = callNamed(step.group(1));
            Check.holds("there is a call " + step.group(1), call != null);
            if (call != null) {
                Check.due(step.group(), ((Number) call.invoke(vault, numbers)).longValue(), Long.parseLong(step.group(3)));
            }
        }
        Check.due("steps of the example", steps, readme.lines().filter(line -> line.startsWith("vault.")).count());
        Check.holds("README.md has an example", steps > 0);
    }

    public static void main(String[] args) throws IOException, ReflectiveOperationException {
        String readme = Files.readString(Path.of("README.md"));
        String document = Files.readString(Path.of("../shared/DOC.md"));
        calls(readme, document);
        constants(readme);
        tests(readme);
        example(readme);
        Check.end();
    }
}
