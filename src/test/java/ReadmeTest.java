import java.io.IOException;
import java.lang.reflect.Method;
import java.lang.reflect.Modifier;
import java.nio.file.Files;
import java.nio.file.Path;
import java.util.List;
import java.util.TreeSet;
import java.util.regex.MatchResult;
import java.util.regex.Matcher;
import java.util.regex.Pattern;
import java.util.stream.Stream;

/** What README.md says is so: its examples, its calls, its tests; the first argument is the class's file. */
public final class ReadmeTest {
    private static final Due DUE = new Due("ReadmeTest");
    private static final Pattern TOLD = Pattern.compile("for \\(char letter : \"(.*)\"\\.toCharArray\\(\\)\\) \\{");
    private static final Pattern CALL = Pattern.compile("boards\\.(\\w+)\\((.*?)\\);\\s+// (-?\\d+).*");
    private static final List<String> BETWEEN = List.of("boards.write(letter);", "}", "");

    private MudBoards boards = new MudBoards();

    public static void main(String[] args) throws IOException, ReflectiveOperationException {
        Path root = Path.of(args[0]).toAbsolutePath().getParent().getParent().getParent().getParent();
        String readme = Files.readString(root.resolve("README.md"));
        int examples = 0;
        for (MatchResult block : Pattern.compile("```java\n(.*?)```", Pattern.DOTALL).matcher(readme).results().toList()) {
            new ReadmeTest().follow(block.group(1));
            examples++;
        }
        DUE.is("there are examples", Math.min(1, examples), 1);
        callsAndConstants(readme);
        tests(readme, root.resolve("src/test/java"));
        DUE.end();
    }

    private void follow(String example) throws ReflectiveOperationException {
        for (String raw : example.split("\n")) {
            String line = raw.strip();
            Matcher told = TOLD.matcher(line);
            Matcher call = CALL.matcher(line);
            if (line.equals("MudBoards boards = new MudBoards();")) {
                boards = new MudBoards();
            } else if (told.matches()) {
                Due.tell(boards, told.group(1));
            } else if (call.matches()) {
                DUE.is(line, answer(call.group(1), call.group(2)), Long.parseLong(call.group(3)));
            } else {
                DUE.is("'" + line + "' tells no call's answer", line.startsWith("//") || BETWEEN.contains(line) ? 1 : 0, 1);
            }
        }
    }

    private long answer(String name, String told) throws ReflectiveOperationException {
        for (Method method : MudBoards.class.getDeclaredMethods()) {
            if (Modifier.isPublic(method.getModifiers()) && method.getName().equals(name)) {
                String[] words = told.isEmpty() ? new String[0] : told.split(", ");
                Object[] numbers = new Object[words.length];
                for (int i = 0; i < words.length; i++) {
                    numbers[i] = value(method.getParameterTypes()[i], words[i]);
                }
                return ((Number) method.invoke(boards, numbers)).longValue();
            }
        }
        throw new IllegalStateException("no call " + name);
    }

    private static Object value(Class<?> type, String word) {
        if (type == boolean.class) {
            return Boolean.valueOf(word);
        }
        if (type == long.class) {
            return Long.valueOf(word);
        }
        return Integer.valueOf(word);
    }

    /** Each call stands in the table, with as many arguments as it takes; each constant with its value. */
    private static void callsAndConstants(String readme) throws ReflectiveOperationException {
        for (Method method : MudBoards.class.getDeclaredMethods()) {
            if (Modifier.isPublic(method.getModifiers())) {
                int arguments = method.getParameterCount();
                String commas = arguments == 0 ? "" : "\\w+" + ", \\w+".repeat(arguments - 1);
                boolean isThere = Pattern.compile("`" + method.getName() + "\\(" + commas + "\\)`").matcher(readme).find();
                DUE.is("README.md tells of " + method, isThere ? 1 : 0, 1);
            }
        }
        for (String name : List.of("UNKNOWN", "OUTSIDE", "STATE", "FULL", "NONE")) {
            int value = MudBoards.class.getField(name).getInt(null);
            DUE.is("README.md tells of " + name, readme.contains("`" + name + "` (" + value + ")") ? 1 : 0, 1);
        }
    }

    private static void tests(String readme, Path folder) throws IOException {
        TreeSet<String> told = new TreeSet<>();
        Pattern.compile("`(\\w+Test)`").matcher(readme).results().forEach(m -> told.add(m.group(1)));
        TreeSet<String> there = new TreeSet<>();
        try (Stream<Path> files = Files.list(folder)) {
            files.map(f -> f.getFileName().toString()).filter(f -> f.endsWith("Test.java"))
                .forEach(f -> there.add(f.substring(0, f.length() - ".java".length())));
        }
        DUE.is("tests " + there + " are those that README.md tells, " + told, there.equals(told) ? 1 : 0, 1);
    }
}
