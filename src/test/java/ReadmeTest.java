import java.io.IOException;
import java.lang.reflect.Method;
import java.lang.reflect.Modifier;
import java.nio.file.Files;
import java.nio.file.Path;
import java.util.Arrays;
import java.util.Set;
import java.util.TreeSet;
import java.util.regex.Matcher;
import java.util.regex.Pattern;

/** README.md is as good as the class: its example is run, its calls are the face, its refusals are those answered. */
public final class ReadmeTest {
    private static final Pattern TYPED = Pattern.compile(
        "for \\(char b : \"([^\"]*)\"\\.toCharArray\\(\\)\\) t\\.type\\((\\d), b\\);");
    private static final Pattern CALL = Pattern.compile("t\\.(\\w+)\\(([^)]*)\\);\\s*// (-?\\d+)(:.*)?");
    private static final Pattern ROW = Pattern.compile("\\| `(\\w+)\\(([^)]*)\\)` \\|.*");
    private static final Due DUE = new Due("ReadmeTest");

    public static void main(String[] args) throws IOException, ReflectiveOperationException {
        String readme = Files.readString(Path.of("README.md"));
        example(readme);
        calls(readme);
        refusals(readme);
        DUE.end();
    }

    private static void example(String readme) throws ReflectiveOperationException {
        int from = readme.indexOf("```java\n");
        int to = readme.indexOf("\n```\n", from);
        DUE.that("there is an example", from >= 0 && to > from);
        TrainNote t = null;
        for (String line : readme.substring(from + 8, to).split("\n")) {
            Matcher typed = TYPED.matcher(line);
            Matcher call = CALL.matcher(line);
            if (line.equals("TrainNote t = new TrainNote();")) {
                t = new TrainNote();
            } else if (typed.matches()) {
                Edges.put(t, Integer.parseInt(typed.group(2)), typed.group(1));
            } else if (call.matches()) {
                DUE.is(line, answer(t, call.group(1), call.group(2)), Long.parseLong(call.group(3)));
            } else {
                DUE.that("a line that can be run: " + line, false);
            }
        }
    }

    private static long answer(TrainNote t, String name, String numbers) throws ReflectiveOperationException {
        Object[] told = numbers.isEmpty() ? new Object[0]
            : Arrays.stream(numbers.split(", ")).map(Integer::valueOf).toArray();
        Class<?>[] types = new Class<?>[told.length];
        Arrays.fill(types, int.class);
        return ((Number) TrainNote.class.getMethod(name, types).invoke(t, told)).longValue();
    }

    private static void calls(String readme) {
        Set<String> told = new TreeSet<>();
        for (String line : readme.split("\n")) {
            Matcher row = ROW.matcher(line);
            if (row.matches()) {
                told.add(row.group(1) + " " + (row.group(2).isEmpty() ? 0 : row.group(2).split(", ").length));
            }
        }
        Set<String> face = new TreeSet<>();
        for (Method method : TrainNote.class.getDeclaredMethods()) {
            if (Modifier.isPublic(method.getModifiers())) {
                face.add(method.getName() + " " + method.getParameterCount());
            }
        }
        DUE.that("the calls told are the face: " + told, told.equals(face));
    }

    private static void refusals(String readme) {
        TrainNote x = Edges.full();
        x.lose(3);
        row(readme, "BAD", x.fault(2), x.note(8, 0), x.herd(10, 0, 0, 0));
        row(readme, "NULL, finding 1", x.lose(3));
        row(readme, "NOT", new TrainNote().undo(0));
        row(readme, "FULL", x.type(0, 0));
        row(readme, "CAST, finding 3", x.lay(0, 1, 0, 0));
        row(readme, "STORE, finding 4", x.copy(0, 0, 1, 0, 0));
        row(readme, "INDEX, finding 2", x.lay(0, 0, 60, 0));
        row(readme, "SIZE, finding 5", x.sheet(0, 0, -1));
    }

    private static void row(String readme, String name, long... answers) {
        StringBuilder row = new StringBuilder("\n| ").append(name).append(" |");
        for (int i = 0; i < 3; i++) {
            row.append(i < answers.length ? " " + answers[i] + " |" : " |");
        }
        DUE.that("README.md has the row" + row, readme.contains(row));
    }
}
