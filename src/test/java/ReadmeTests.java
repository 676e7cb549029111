import java.io.File;
import java.io.IOException;
import java.lang.reflect.Field;
import java.lang.reflect.Method;
import java.lang.reflect.Modifier;
import java.nio.charset.StandardCharsets;
import java.nio.file.Files;
import java.nio.file.Path;
import java.util.ArrayList;
import java.util.List;
import java.util.Set;
import java.util.TreeMap;
import java.util.Map;
import java.util.TreeSet;
import java.util.regex.Matcher;
import java.util.regex.Pattern;
import java.util.stream.Stream;

/** What README.md says is so: its examples with their answers, its commands, its lists and numbers. */
public final class ReadmeTests {
    private static final Pattern CALL = Pattern.compile("(x\\.\\w+\\(.*\\)); *// (-?\\d+|BAD|NOT|FULL|STATE|VOID)(:.*)?");
    private static int wrong = 0;

    private record Block(String language, List<String> lines) {
        String text() {
            return String.join("\n", lines) + "\n";
        }
    }

    public static void main(String[] args) throws IOException, InterruptedException {
        if (args.length < 1) {
            System.out.println("the program's path is wanted");
            System.exit(1);
        }
        Path root = Path.of(args[0]).toRealPath().getParent().getParent().getParent().getParent();
        List<String> page = Files.readAllLines(root.resolve("README.md"), StandardCharsets.UTF_8);
        List<Block> blocks = blocks(page);
        calls(page);
        answers(page);
        tests(page, root);
        Path room = Files.createTempDirectory("readme");
        try {
            copy(root.resolve("src"), room.resolve("src"));
            commands(blocks, room, root);
            examples(blocks, room);
        } finally {
            remove(room);
        }
        System.out.println(wrong == 0 ? "what README.md says is so" : wrong + " faults in README.md");
        if (wrong != 0) {
            System.exit(1);
        }
    }

    private static void fault(String what) {
        wrong++;
        System.out.println("README.md: " + what);
    }

    private static List<Block> blocks(List<String> page) {
        List<Block> blocks = new ArrayList<>();
        Block open = null;
        for (String line : page) {
            if (!line.startsWith("```")) {
                if (open != null) {
                    open.lines.add(line);
                }
            } else if (open == null) {
                open = new Block(line.substring(3), new ArrayList<>());
                blocks.add(open);
            } else {
                open = null;
            }
        }
        return blocks;
    }

    // ---- lists and numbers

    /** Each call stands in the list with its arguments, and none that there is not. */
    private static void calls(List<String> page) {
        Map<String, Integer> listed = new TreeMap<>();
        for (String line : page) {
            Matcher m = Pattern.compile("\\| `(\\w+)\\(([^)]*)\\)` \\| .*").matcher(line);
            if (m.matches()) {
                listed.put(m.group(1), m.group(2).isEmpty() ? 0 : m.group(2).split(",").length);
            }
        }
        Map<String, Integer> there = new TreeMap<>();
        for (Method m : VectorRounds.class.getDeclaredMethods()) {
            if (Modifier.isPublic(m.getModifiers())) {
                there.put(m.getName(), m.getParameterCount());
            }
        }
        if (!listed.equals(there)) {
            fault("the calls listed are " + listed + ", there are " + there);
        }
    }

    private static void answers(List<String> page) {
        Map<String, Integer> listed = new TreeMap<>();
        for (String line : page) {
            Matcher m = Pattern.compile("\\| `([A-Z]+)` \\| (-\\d+) \\| .*").matcher(line);
            if (m.matches()) {
                listed.put(m.group(1), Integer.parseInt(m.group(2)));
            }
        }
        Map<String, Integer> there = new TreeMap<>();
        for (Field f : VectorRounds.class.getFields()) {
            there.put(f.getName(), valueOf(f));
        }
        if (!listed.equals(there)) {
            fault("the answers listed are " + listed + ", there are " + there);
        }
    }

    private static int valueOf(Field f) {
        try {
            return f.getInt(null);
        } catch (IllegalAccessException hidden) {
            fault("a constant that is not public: " + f);
            return 0;
        }
    }

    private static void tests(List<String> page, Path root) throws IOException {
        Set<String> listed = new TreeSet<>();
        for (String line : page) {
            Matcher m = Pattern.compile("- `(\\w+)`: .*").matcher(line);
            if (m.matches()) {
                listed.add(m.group(1) + ".java");
            }
        }
        Set<String> there = new TreeSet<>();
        try (Stream<Path> files = Files.list(root.resolve("src/test/java"))) {
            files.forEach(f -> there.add(f.getFileName().toString()));
        }
        if (!listed.equals(there)) {
            fault("the tests listed are " + listed + ", there are " + there);
        }
    }

    // ---- commands

    /** Made as they stand, in a copy of the directory; but .ci/run, which is what runs this test. */
    private static void commands(List<Block> blocks, Path room, Path root) throws IOException, InterruptedException {
        String printed = "";
        for (Block block : blocks) {
            if (block.text().contains("class Example")) {
                Files.writeString(room.resolve("Example.java"), block.text());
            }
        }
        for (Block block : blocks) {
            if (block.language.equals("sh")) {
                for (String command : block.lines) {
                    if (command.equals(".ci/run")) {
                        if (!Files.isExecutable(root.resolve(command))) {
                            fault(command + " can't be run");
                        }
                    } else {
                        printed = made(room, command);
                    }
                    if (command.endsWith(" Example")) {
                        example(blocks, printed);
                    }
                }
            }
        }
    }

    private static void example(List<Block> blocks, String printed) {
        for (Block block : blocks) {
            if (block.language.equals("text") && block.text().equals(printed)) {
                return;
            }
        }
        fault("the example printed: " + printed);
    }

    /** What a command prints. */
    private static String made(Path room, String command) throws IOException, InterruptedException {
        File printed = room.resolve("printed").toFile();
        Process process = new ProcessBuilder(command.split(" +")).directory(room.toFile()).redirectErrorStream(true)
            .redirectOutput(printed).start();
        int code = process.waitFor();
        String text = Files.readString(printed.toPath(), StandardCharsets.UTF_8);
        if (code != 0) {
            fault(command + " ended with " + code + ": " + text);
        }
        return text;
    }

    // ---- examples of calls

    /** All blocks of calls as one program that tells what is answered otherwise. */
    private static void examples(List<Block> blocks, Path room) throws IOException, InterruptedException {
        StringBuilder program = new StringBuilder("public class ReadmeCalls {\n"
            + "static final int BAD = VectorRounds.BAD, NOT = VectorRounds.NOT, FULL = VectorRounds.FULL,"
            + " STATE = VectorRounds.STATE, VOID = VectorRounds.VOID;\n"
            + "static void due(String call, int got, int want) {\n"
            + "if (got != want) { System.out.println(call + \" answered \" + got + \", due is \" + want); } }\n"
            + "public static void main(String[] args) { VectorRounds x = null;\n");
        int shown = 0;
        for (Block block : blocks) {
            if (block.language.equals("java") && !block.text().contains("class Example")) {
                for (String line : block.lines) {
                    shown += line.startsWith("x.") ? 1 : 0;
                    program.append(statement(line)).append('\n');
                }
            }
        }
        if (shown < 60) {
            fault("few examples: " + shown);
        }
        Files.writeString(room.resolve("ReadmeCalls.java"), program.append("} }\n"));
        made(room, "javac -cp out -d out ReadmeCalls.java");
        String told = made(room, "java -cp out ReadmeCalls");
        if (!told.isEmpty()) {
            fault("examples:\n" + told);
        }
    }

    private static String statement(String line) {
        Matcher call = CALL.matcher(line);
        if (call.matches()) {
            return "due(\"" + call.group(1).replace("\"", "") + "\", " + call.group(1) + ", " + call.group(2) + ");";
        }
        if (line.startsWith("x.")) {
            fault("no answer is told: " + line);
        }
        return line.replace("VectorRounds x = ", "x = ");
    }

    // ---- files

    private static void copy(Path from, Path to) throws IOException {
        List<Path> files;
        try (Stream<Path> all = Files.walk(from)) {
            files = all.toList();
        }
        for (Path file : files) {
            Path there = to.resolve(from.relativize(file).toString());
            if (Files.isDirectory(file)) {
                Files.createDirectories(there);
            } else {
                Files.copy(file, there);
            }
        }
    }

    private static void remove(Path room) throws IOException {
        List<Path> files;
        try (Stream<Path> all = Files.walk(room)) {
            files = new ArrayList<>(all.toList());
        }
        for (int i = files.size() - 1; i >= 0; i--) {
            Files.delete(files.get(i));
        }
    }
}
