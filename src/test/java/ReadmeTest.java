import java.io.IOException;
import java.nio.file.Files;
import java.nio.file.Path;
import java.util.ArrayList;
import java.util.List;
import java.util.regex.Matcher;
import java.util.regex.Pattern;
import java.util.stream.Stream;
import javax.tools.ToolProvider;

/** README.md: its Java compiles, and each call answers what stands behind it. */
public final class ReadmeTest {
    private static final Pattern BLOCK = Pattern.compile("```java\n(.*?)```", Pattern.DOTALL);
    private static final Pattern CALL = Pattern.compile("(arcade\\.\\w+\\(.*\\));\\s*// (-?\\w+).*");

    private static int rows = 0, bare = 0;

    public static void main(String[] args) throws Exception {
        String page = Files.readString(Path.of("README.md"));
        Path room = Files.createTempDirectory("readme");
        int wrong;
        try {
            wrong = run(source(page), room);
        } finally {
            empty(room);
        }
        if (rows == 0 || bare > 0) {
            wrong++;
            System.out.println("README.md has " + rows + " calls with an answer, " + bare + " without");
        }
        System.out.println(wrong == 0 ? rows + " calls of README.md answer as it says" : "README.md is wrong");
        if (wrong != 0) System.exit(1);
    }

    /** Blocks with a helper become methods, the rows of all others one run of calls. */
    private static String source(String page) {
        StringBuilder helpers = new StringBuilder(), calls = new StringBuilder();
        Matcher block = BLOCK.matcher(page);
        while (block.find()) {
            if (block.group(1).startsWith("static ")) {
                helpers.append(block.group(1));
                continue;
            }
            for (String row : block.group(1).split("\n")) calls.append(asked(row)).append('\n');
        }
        return "public final class Readme {\n"
            + "static int wrong = 0;\n"
            + "static void due(int want, int got, String call) {\n"
            + "if (got == want) return;\nwrong++;\n"
            + "System.out.println(\"README.md: \" + call + \" answers \" + got);\n}\n"
            + helpers
            + "public static int run() {\n" + calls + "return wrong;\n}\n}\n";
    }

    private static String asked(String row) {
        Matcher call = CALL.matcher(row);
        if (!call.matches()) {
            if (row.contains("arcade.")) bare++;
            return row;
        }
        rows++;
        String answer = call.group(2);
        String want = answer.matches("[A-Z]+") ? "ArcadeRents." + answer : answer;
        return "due(" + want + ", " + call.group(1) + ", \"" + row.replaceAll("\\s+", " ") + "\");";
    }

    private static int run(String source, Path room) throws Exception {
        Path file = Files.writeString(room.resolve("Readme.java"), source);
        String classes = System.getProperty("java.class.path");
        int failed = ToolProvider.getSystemJavaCompiler().run(null, null, null,
            "-cp", classes, "-d", room.toString(), file.toString());
        if (failed != 0) return 1;
        try (var loader = new java.net.URLClassLoader(new java.net.URL[] {room.toUri().toURL()})) {
            return (Integer) loader.loadClass("Readme").getMethod("run").invoke(null);
        }
    }

    private static void empty(Path room) throws IOException {
        List<Path> files = new ArrayList<>();
        try (Stream<Path> all = Files.list(room)) {
            all.forEach(files::add);
        }
        for (Path file : files) Files.delete(file);
        Files.delete(room);
    }
}
