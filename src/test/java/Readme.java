import java.io.IOException;
import java.lang.reflect.Field;
import java.lang.reflect.Modifier;
import java.nio.file.Files;
import java.nio.file.Path;
import java.util.ArrayList;
import java.util.List;
import java.util.Set;
import java.util.TreeSet;
import java.util.regex.Matcher;
import java.util.regex.Pattern;
import java.util.stream.Stream;
import javax.tools.JavaCompiler;
import javax.tools.ToolProvider;

/** README.md: its examples answer what it says, its tables tell the class's numbers, the paths that it names are there. */
public final class Readme {
    private static final Pattern BLOCK = Pattern.compile("(?s)```java\n(.*?)```");
    private static final Pattern MADE = Pattern.compile("\\s*BehindBig x = new BehindBig\\(\\);\\s*");
    private static final Pattern FED = Pattern.compile("\\s*for \\(char c : \"[^\"]*\"\\.toCharArray\\(\\)\\) x\\.feed\\(c\\);\\s*");
    private static final Pattern CALL = Pattern.compile("\\s*(x\\.(\\w+)\\([^;]*\\));\\s*// (-?\\d+|Long\\.MIN_VALUE)(:.*)?");

    private static int wrong, answers;

    private static void must(boolean so, String what) {
        if (so) return;
        wrong++;
        System.out.println("README.md: " + what);
    }

    /** An example asks this. */
    public static void due(String call, long got, long want) {
        answers++;
        must(got == want, call + " answers " + got + ", not " + want);
    }

    public static void main(String[] args) throws Exception {
        String page = Files.readString(Path.of("README.md"));
        examples(page);
        refusals(page);
        paths(page);
        tests(page);
        System.out.println(answers + " answers of README.md, " + wrong + " faults");
        if (wrong != 0) System.exit(1);
    }

    // ---- examples

    private static void examples(String page) throws Exception {
        StringBuilder code = new StringBuilder("public final class Examples {\n    public static void run() {\n");
        int blocks = 0, told = 0;
        for (Matcher block = BLOCK.matcher(page); block.find(); blocks++) {
            code.append("        {\n");
            for (String line : block.group(1).split("\n")) {
                if (CALL.matcher(line).matches()) told++;
                code.append("            ").append(rewritten(line)).append('\n');
            }
            code.append("        }\n");
        }
        must(blocks >= 6, "it has fewer examples than it had: " + blocks);
        if (wrong == 0) compileAndRun(code.append("    }\n}\n").toString());
        must(answers == told, "of " + told + " answers only " + answers + " were asked for");
    }

    private static String rewritten(String line) {
        Matcher call = CALL.matcher(line);
        if (call.matches()) return "Readme.due(\"" + call.group(1) + "\", " + call.group(1) + ", " + call.group(3) + ");";
        must(MADE.matcher(line).matches() || FED.matcher(line).matches(), "no answer stands behind: " + line);
        return line;
    }

    private static void compileAndRun(String code) throws Exception {
        JavaCompiler compiler = ToolProvider.getSystemJavaCompiler();
        must(compiler != null, "there is no compiler for its examples");
        if (compiler == null) return;
        Path dir = Files.createTempDirectory("readme");
        try {
            Path file = dir.resolve("Examples.java");
            Files.writeString(file, code);
            int ended = compiler.run(null, null, null, "-cp", System.getProperty("java.class.path"), "-d", dir.toString(), file.toString());
            must(ended == 0, "its examples do not compile");
            if (ended != 0) return;
            try (java.net.URLClassLoader loader = new java.net.URLClassLoader(new java.net.URL[] {dir.toUri().toURL()})) {
                loader.loadClass("Examples").getMethod("run").invoke(null);
            }
        } finally {
            remove(dir);
        }
    }

    private static void remove(Path dir) throws IOException {
        try (Stream<Path> files = Files.list(dir)) {
            for (Path file : files.toList()) Files.delete(file);
        }
        Files.delete(dir);
    }

    // ---- what it says beside them

    private static void refusals(String page) throws Exception {
        Set<String> told = new TreeSet<>(), stand = new TreeSet<>();
        Matcher row = Pattern.compile("\\| (-\\d+) \\| `BehindBig\\.(\\w+)` \\|").matcher(page);
        while (row.find()) told.add(row.group(2) + " " + row.group(1));
        Matcher alone = Pattern.compile("`BehindBig\\.(\\w+)` \\((-\\d+)\\)").matcher(page);
        while (alone.find()) told.add(alone.group(1) + " " + alone.group(2));
        for (Field field : BehindBig.class.getDeclaredFields()) {
            if (Modifier.isPublic(field.getModifiers())) stand.add(field.getName() + " " + field.getInt(null));
        }
        must(told.equals(stand), "the constants are " + stand + ", not " + told);
    }

    private static void paths(String page) {
        int named = 0;
        Matcher path = Pattern.compile("(?:\\.\\./shared|src|\\.ci)/[\\w./]*\\w|NOTES\\.md").matcher(page);
        while (path.find()) {
            named++;
            must(Files.exists(Path.of(path.group())), "it names " + path.group() + ", which is not there");
        }
        must(named > 10, "it names fewer paths than it did: " + named);
        for (String asked : List.of("../shared/DOC.md", "../shared/LANGUAGE.md", "bash .ci/run")) must(page.contains(asked), "it does not name " + asked);
    }

    /** Each test of the project is in the list, and each one in the list is there. */
    private static void tests(String page) throws IOException {
        List<String> listed = new ArrayList<>(), there = new ArrayList<>();
        Matcher item = Pattern.compile("(?m)^- `src/test/java/(\\w+)\\.java`").matcher(page);
        while (item.find()) listed.add(item.group(1));
        try (Stream<Path> files = Files.list(Path.of("src/test/java"))) {
            for (Path file : files.toList()) there.add(file.getFileName().toString().replace(".java", ""));
        }
        must(new TreeSet<>(listed).equals(new TreeSet<>(there)), "the tests are " + there + ", and it lists " + listed);
    }
}
