import java.io.IOException;
import java.lang.reflect.Field;
import java.lang.reflect.Method;
import java.lang.reflect.Modifier;
import java.nio.charset.StandardCharsets;
import java.nio.file.Files;
import java.nio.file.Path;
import java.util.ArrayList;
import java.util.List;
import java.util.regex.Matcher;
import java.util.regex.Pattern;

/**
 * README.md, in the directory in which the test runs: its example runs as it stands there and
 * prints what is said there, and it tells each call and constant of the class.
 */
public final class ReadmeTest extends Checks {
    private static final Pattern EXCEPTION = Pattern.compile("`([A-Za-z]+Exception)`");

    public static void main(String[] args) throws IOException, InterruptedException {
        List<String> page = Files.readAllLines(Path.of("README.md"), StandardCharsets.UTF_8);
        about("README.md");
        theExampleRuns(page);
        eachCallIsTold(page);
        eachConstantIsTold(page);
        end();
    }

    private static void theExampleRuns(List<String> page) throws IOException, InterruptedException {
        Path place = Files.createTempDirectory("readme");
        Path example = place.resolve("Example.java");
        Path printed = place.resolve("printed");
        Files.write(example, onlyBlock(page, "java"), StandardCharsets.UTF_8);
        String java = Path.of(System.getProperty("java.home"), "bin", "java").toString();
        Process run = new ProcessBuilder(java, "-cp", System.getProperty("java.class.path"), example.toString())
                .redirectErrorStream(true)
                .redirectOutput(printed.toFile())
                .start();
        due("exit code of the example", 0, run.waitFor());
        due("what the example prints", String.join("\n", onlyBlock(page, "text")),
                String.join("\n", Files.readAllLines(printed, StandardCharsets.UTF_8)));
        Files.delete(example);
        Files.delete(printed);
        Files.delete(place);
    }

    // The lines between ```kind and the next ```.
    private static List<String> onlyBlock(List<String> page, String kind) {
        List<String> block = new ArrayList<>();
        int blocks = 0;
        boolean inside = false;
        for (String line : page) {
            if (inside && line.equals("```")) {
                inside = false;
            } else if (inside) {
                block.add(line);
            } else if (line.equals("```" + kind)) {
                inside = true;
                blocks++;
            }
        }
        due("blocks of the kind " + kind, 1, blocks);
        return block;
    }

    private static void eachCallIsTold(List<String> page) {
        for (Method call : Managetree.class.getDeclaredMethods()) {
            if (Modifier.isPublic(call.getModifiers())) {
                String row = rowOf(page, call.getName());
                due("arguments of " + call.getName(), call.getParameterCount(), countArguments(row));
                due("exceptions of " + call.getName(), exceptionsOf(call), exceptionsTold(row));
            }
        }
    }

    private static String rowOf(List<String> page, String name) {
        String found = "";
        int rows = 0;
        for (String line : page) {
            if (line.startsWith("| `" + name + "(")) {
                found = line;
                rows++;
            }
        }
        due("rows of " + name, 1, rows);
        return found;
    }

    private static int countArguments(String row) {
        int from = row.indexOf('(') + 1;
        int to = row.indexOf(')');
        if (to < from) {
            return -1;
        }
        String arguments = row.substring(from, to);
        return arguments.isEmpty() ? 0 : arguments.split(", ").length;
    }

    private static String exceptionsOf(Method call) {
        List<String> names = new ArrayList<>();
        for (Class<?> type : call.getExceptionTypes()) {
            names.add(type.getSimpleName());
        }
        return names.toString();
    }

    private static String exceptionsTold(String row) {
        List<String> names = new ArrayList<>();
        Matcher matcher = EXCEPTION.matcher(row);
        while (matcher.find()) {
            names.add(matcher.group(1));
        }
        return names.toString();
    }

    private static void eachConstantIsTold(List<String> page) {
        String all = String.join("\n", page);
        for (Field field : Managetree.class.getDeclaredFields()) {
            if (Modifier.isPublic(field.getModifiers())) {
                due("tells " + field.getName(), "true", Boolean.toString(all.contains("`" + field.getName() + "`")));
            }
        }
    }
}
