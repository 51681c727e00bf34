import java.io.IOException;
import java.lang.reflect.Method;
import java.lang.reflect.Modifier;
import java.nio.file.Files;
import java.nio.file.Path;
import java.util.ArrayList;
import java.util.Arrays;
import java.util.List;
import java.util.regex.Matcher;
import java.util.regex.Pattern;

/** README.md: its example prints what it says, its tables have every call, its commands of tests run. */
public final class ReadmeTest {
    private static final Path SOURCE = Path.of("src", "main", "java", "PenNursery.java");
    private static final Pattern BLOCK = Pattern.compile("```(\\w+)\n(.*?)```", Pattern.DOTALL);
    private static final Pattern COMMAND = Pattern.compile("\\| `([^`|]+)` \\| `(\\w+)\\((.*)\\)` \\|");

    private ReadmeTest() {
    }

    public static void main(String[] args) throws IOException, InterruptedException, ReflectiveOperationException {
        String text = Files.readString(Path.of("README.md"));
        List<String[]> blocks = blocks(text);
        example(blocks.get(0), blocks.get(1), blocks.get(2));
        commandsOfTests(blocks.get(3), blocks.get(4));
        calls(text.lines().toList());
        programs(text.lines().toList());
        files(text);
        Check.end();
    }

    private static List<String[]> blocks(String text) {
        List<String[]> blocks = new ArrayList<>();
        Matcher matcher = BLOCK.matcher(text);
        while (matcher.find()) {
            blocks.add(new String[] {matcher.group(1), matcher.group(2)});
        }
        return blocks;
    }

    private static void example(String[] program, String[] commands, String[] output)
            throws IOException, InterruptedException {
        Check.due("the blocks", List.of(program[0], commands[0], output[0]), List.of("java", "sh", "text"));
        Path directory = Files.createTempDirectory("readme");
        Files.writeString(directory.resolve("Example.java"), program[1]);
        Files.copy(SOURCE, directory.resolve("PenNursery.java"));
        Check.due("the example", shell(directory, commands[1]), output[1]);
        deleteAll(directory);
    }

    private static String shell(Path directory, String commands) throws IOException, InterruptedException {
        Process process = new ProcessBuilder("sh", "-e", "-c", commands).directory(directory.toFile())
                .redirectError(ProcessBuilder.Redirect.INHERIT).start();
        process.getOutputStream().close();
        String output = new String(process.getInputStream().readAllBytes());
        Check.due("the end of " + commands, process.waitFor(), 0);
        return output;
    }

    private static void deleteAll(Path path) throws IOException {
        if (Files.isDirectory(path)) {
            try (var inside = Files.list(path)) {
                for (Path one : inside.toList()) {
                    deleteAll(one);
                }
            }
        }
        Files.delete(path);
    }

    /** A single test is run as it is said; not .ci/run, which runs this test. */
    private static void commandsOfTests(String[] all, String[] single) throws IOException, InterruptedException {
        Check.due("the command for all tests", all[1], ".ci/run\n");
        Check.due("it is there", Files.isExecutable(Path.of(".ci", "run")), true);
        Path directory = Files.createTempDirectory("readme");
        String here = Path.of("").toAbsolutePath().toString();
        Path linked = Files.createSymbolicLink(directory.resolve("src"), Path.of(here, "src"));
        Check.due("a single test", shell(directory, single[1]), "all answers are as due\n");
        Files.delete(linked);
        deleteAll(directory);
    }

    private static void calls(List<String> lines) {
        int rows = 0;
        for (Method method : PenNursery.class.getDeclaredMethods()) {
            if (Modifier.isPublic(method.getModifiers())) {
                Pattern row = Pattern.compile("\\| `" + method.getReturnType() + " " + method.getName() + "\\("
                        + parameters(method) + "\\)` \\|[^|]*\\|[^|]+\\|([^|]*)\\|");
                List<Matcher> found = lines.stream().map(row::matcher).filter(Matcher::matches).toList();
                Check.due("rows of " + method.getName(), found.size(), 1);
                for (Matcher matcher : found) {
                    Check.due("throws of " + method.getName(), thrown(matcher.group(1)), thrown(method));
                    rows++;
                }
            }
        }
        Check.due("rows of all calls", rows, 45);
    }

    private static String parameters(Method method) {
        return String.join(", ", Arrays.stream(method.getParameterTypes()).map(type -> type + " \\w+").toList());
    }

    private static List<String> thrown(String cell) {
        List<String> names = new ArrayList<>();
        for (String reason : cell.isBlank() ? new String[0] : cell.split(";")) {
            names.add(reason.split(":")[0].strip());
        }
        return names;
    }

    private static List<String> thrown(Method method) {
        List<String> names = new ArrayList<>();
        for (Class<?> type : method.getExceptionTypes()) {
            names.add(type.getSimpleName().replaceAll("Exception|Illegal|OutOfBounds|NoSuch|Operation", ""));
        }
        return names;
    }

    /** Each command of the table does what the call beside it does. */
    private static void programs(List<String> lines) throws ReflectiveOperationException {
        int rows = 0;
        for (String line : lines) {
            Matcher row = COMMAND.matcher(line);
            if (row.matches()) {
                PenNursery called = roomy();
                PenNursery program = roomy();
                call(called, row.group(2), row.group(3).split(", "));
                Check.due("run of " + row.group(1), Nursery.run(program, row.group(1)), 1);
                Check.due("the state after " + row.group(1), Nursery.state(program), Nursery.state(called));
                rows++;
            }
        }
        Check.due("rows of all commands", rows, 10);
    }

    private static PenNursery roomy() {
        PenNursery nursery = Edge.full();
        nursery.uproot(0);
        return nursery;
    }

    private static void call(PenNursery nursery, String name, String[] words) throws ReflectiveOperationException {
        Object[] values = new Object[words.length];
        Class<?>[] types = new Class<?>[words.length];
        for (int i = 0; i < words.length; i++) {
            boolean sign = words[i].startsWith("'");
            types[i] = sign ? char.class : int.class;
            if (sign) {
                values[i] = words[i].charAt(1);
            } else {
                values[i] = Integer.valueOf(words[i]);
            }
        }
        PenNursery.class.getMethod(name, types).invoke(nursery, values);
    }

    private static void files(String text) throws IOException {
        try (var files = Files.list(Path.of("src", "test", "java"))) {
            for (Path file : files.toList()) {
                String name = file.getFileName().toString().replace(".java", "");
                String shown = name.replaceAll("^(Edges|Sentences)\\w+Test$", "$1...Test");
                Check.due("the file " + name, text.contains("`" + shown + "`"), true);
            }
        }
    }
}
