import java.io.ByteArrayOutputStream;
import java.io.IOException;
import java.io.PrintStream;
import java.net.URL;
import java.net.URLClassLoader;
import java.nio.charset.StandardCharsets;
import java.nio.file.Files;
import java.nio.file.Path;
import java.util.ArrayList;
import java.util.List;
import java.util.concurrent.Callable;
import java.util.regex.Matcher;
import java.util.regex.Pattern;
import java.util.stream.Collectors;
import java.util.stream.Stream;
import javax.tools.ToolProvider;

/** What README.md tells is so: its Java is compiled and run, and its face is the one of the document. */
final class ReadmeTest {
    /** A call with its answer behind it, and perhaps, behind a colon, what that means. */
    private static final Pattern ANSWERED = Pattern.compile("(.*\\));\\s+// ([^:]+)(: .*)?");
    private static final Pattern CLASS = Pattern.compile("(public )?final class (\\w+) \\{");
    private static final Pattern CONSTANT = Pattern.compile(" *public static final int (\\w+) = (-\\d+);");
    private static final Pattern METHOD = Pattern.compile(" *public ((?:\\w+ )?(\\w+)\\(.*\\))(?: throws (.*))?;");

    private record Block(String kind, List<String> lines) {
    }

    public static void main(String[] args) throws Exception {
        List<String> readme = Files.readAllLines(Path.of("README.md"));
        List<String> document = Files.readAllLines(Path.of("../shared/DOC.md"));
        List<Block> blocks = blocks(readme);
        Path folder = Files.createTempDirectory("readme");
        try {
            compile(folder, blocks);
            try (URLClassLoader loader = new URLClassLoader(new URL[] {folder.toUri().toURL()})) {
                programs(loader, blocks);
                answers(loader);
            }
        } finally {
            delete(folder);
        }
        face(document, readme, blocks);
        Check.end();
    }

    private static List<Block> blocks(List<String> readme) {
        List<Block> blocks = new ArrayList<>();
        Block open = null;
        for (String line : readme) {
            if (!line.startsWith("```")) {
                if (open != null) {
                    open.lines().add(line);
                }
            } else if (open == null) {
                open = new Block(line.substring(3), new ArrayList<>());
                blocks.add(open);
            } else {
                open = null;
            }
        }
        return blocks;
    }

    /** The name of the class that a block is, or null. */
    private static String className(Block block) {
        Matcher matcher = CLASS.matcher(block.lines().get(0));
        return block.kind().equals("java") && matcher.matches() ? matcher.group(2) : null;
    }

    // ---- the Java in README.md

    private static void compile(Path folder, List<Block> blocks) throws IOException {
        List<String> files = new ArrayList<>(List.of("-encoding", "UTF-8", "-d", folder.toString()));
        files.addAll(List.of("-cp", System.getProperty("java.class.path")));
        for (Block block : blocks) {
            if (className(block) != null) {
                files.add(file(folder, className(block), String.join("\n", block.lines())));
            }
        }
        files.add(file(folder, "ReadmeExamples", examples(blocks)));
        int code = ToolProvider.getSystemJavaCompiler().run(null, null, null, files.toArray(String[]::new));
        Check.same("compiling the Java in README.md", 0, code);
    }

    private static String file(Path folder, String name, String text) throws IOException {
        return Files.writeString(folder.resolve(name + ".java"), text).toString();
    }

    /** A class that makes all calls of the examples, and answers what each of them is due to answer and what it answers. */
    private static String examples(List<Block> blocks) {
        StringBuilder text = new StringBuilder("import java.util.*;\nimport java.util.concurrent.Callable;\n"
                + "public final class ReadmeExamples implements Callable<List<String[]>> {\n"
                + "final List<String[]> told = new ArrayList<>();\n"
                + "void told(String call, String due, Callable<Object> made) {\n"
                + "String answer;\n"
                + "try { answer = String.valueOf(made.call()); }\n"
                + "catch (Exception e) { answer = \"throws \" + e.getClass().getSimpleName(); }\n"
                + "told.add(new String[] {call, due, answer}); }\n"
                + "public List<String[]> call() {\n");
        for (Block block : blocks) {
            if (block.kind().equals("java") && className(block) == null) {
                text.append("{\n").append(statements(block)).append("}\n");
            }
        }
        return text.append("return told; }\n}\n").toString();
    }

    private static String statements(Block block) {
        StringBuilder text = new StringBuilder();
        String begun = "";
        for (String line : block.lines()) {
            Matcher answered = ANSWERED.matcher(begun + line.strip());
            if (answered.matches()) {
                String call = answered.group(1);
                text.append("told(").append(quoted(call)).append(", ").append(quoted(answered.group(2)))
                        .append(", () -> ").append(call).append(");\n");
                begun = "";
            } else if (line.contains("//")) {
                Check.sameText("a line of an example", "a call and its answer", line);
            } else if (line.endsWith(";") || line.endsWith("{") || line.endsWith("}")) {
                text.append(begun).append(line).append('\n');
                begun = "";
            } else {
                begun += line.strip() + " ";
            }
        }
        return text.append(begun).toString();
    }

    private static String quoted(String text) {
        return '"' + text.replace("\\", "\\\\").replace("\"", "\\\"") + '"';
    }

    private static void answers(ClassLoader loader) throws Exception {
        Object examples = loader.loadClass("ReadmeExamples").getDeclaredConstructor().newInstance();
        List<?> told = (List<?>) ((Callable<?>) examples).call();
        for (Object one : told) {
            String[] row = (String[]) one;
            Check.sameText("README.md: " + row[0], row[1], row[2]);
        }
        Check.same("examples with an answer, more than 100", 1, told.size() > 100 ? 1 : 0);
    }

    /** Behind a program stands, as the next text, what it prints. */
    private static void programs(ClassLoader loader, List<Block> blocks) throws Exception {
        for (int index = 0; index + 1 < blocks.size(); index++) {
            Block block = blocks.get(index);
            if (block.lines().stream().anyMatch(line -> line.contains("void main("))) {
                String due = String.join("\n", blocks.get(index + 1).lines());
                Check.sameText("what " + className(block) + " prints", due, printed(loader.loadClass(className(block))));
            }
        }
    }

    private static String printed(Class<?> program) throws Exception {
        PrintStream screen = System.out;
        ByteArrayOutputStream kept = new ByteArrayOutputStream();
        System.setOut(new PrintStream(kept, true, StandardCharsets.UTF_8));
        try {
            program.getMethod("main", String[].class).invoke(null, (Object) new String[0]);
        } finally {
            System.setOut(screen);
        }
        return kept.toString(StandardCharsets.UTF_8).strip().replace("\r", "");
    }

    private static void delete(Path folder) throws IOException {
        try (Stream<Path> all = Files.walk(folder)) {
            for (Path one : all.sorted((a, b) -> b.compareTo(a)).collect(Collectors.toList())) {
                Files.delete(one);
            }
        }
    }

    // ---- the face

    private static void face(List<String> document, List<String> readme, List<Block> blocks) {
        String examples = blocks.stream().filter(block -> block.kind().equals("java"))
                .map(block -> String.join("\n", block.lines())).collect(Collectors.joining("\n"));
        int constants = 0;
        int methods = 0;
        for (String line : document) {
            Matcher constant = CONSTANT.matcher(line);
            Matcher method = METHOD.matcher(line);
            if (constant.matches()) {
                constants++;
                constant(readme, constant.group(1), constant.group(2));
            } else if (method.matches()) {
                methods++;
                Check.sameText("what is told of " + method.group(1), thrown(method.group(3)), thrownIn(told(readme, method.group(1))));
                Check.same("examples with " + method.group(2), 1, examples.contains(method.group(2) + "(") ? 1 : 0);
            }
        }
        Check.same("constants of the document", 7, constants);
        Check.same("methods of the document, with its constructor", 45, methods);
        Check.same("methods told", methods, readme.stream().filter(line -> line.matches("- `[^`]*\\)`: .*")).count());
    }

    private static void constant(List<String> readme, String name, String value) {
        String row = "| `" + name + "` | " + value + " | ";
        Check.same("rows of " + name, 1, readme.stream().filter(line -> line.startsWith(row)).count());
    }

    /** What stands behind the face of a method, up to the next point of the list. */
    private static String told(List<String> readme, String face) {
        int first = 0;
        while (first < readme.size() && !readme.get(first).startsWith("- `" + face + "`: ")) {
            first++;
        }
        Check.same("a point for " + face, 1, first < readme.size() ? 1 : 0);
        StringBuilder text = new StringBuilder();
        for (int index = first; index < readme.size(); index++) {
            if (index > first && !readme.get(index).startsWith("  ")) {
                break;
            }
            text.append(readme.get(index)).append(' ');
        }
        return text.toString();
    }

    private static String thrown(String named) {
        return named == null ? "" : named.replace(" ", "");
    }

    private static String thrownIn(String told) {
        Matcher matcher = Pattern.compile("`(\\w+Exception)`").matcher(told);
        return matcher.results().map(result -> result.group(1)).collect(Collectors.joining(","));
    }
}
