import java.io.File;
import java.io.IOException;
import java.nio.file.Files;
import java.nio.file.Path;
import java.util.ArrayList;
import java.util.Comparator;
import java.util.List;
import java.util.regex.Matcher;
import java.util.regex.Pattern;
import java.util.stream.Stream;

/** README.md as it is written there: its calls answer as it says, its commands run. */
public final class ReadmeTest {
    private static final Due DUE = new Due();
    private static final Path PAGE = Path.of("README.md");
    private static final Pattern BLOCK = Pattern.compile("(?ms)^```(\\w+)\\n(.*?)^```$");
    private static final Pattern ROW = Pattern.compile("(hut\\.\\w+\\(.*?\\)); +// (-?\\d+)(?::.*)?");
    private static final String ALL_TESTS = ".ci/run";

    public static void main(String[] args) throws IOException, InterruptedException {
        Path place = Files.createTempDirectory("readme");
        try {
            callsAnswer(place);
            commandsRun(place);
            testsAreNamed();
        } finally {
            clear(place);
        }
        DUE.close("ReadmeTest");
    }

    private static List<String> blocks(String kind) throws IOException {
        List<String> found = new ArrayList<>();
        Matcher block = BLOCK.matcher(Files.readString(PAGE));
        while (block.find()) {
            if (block.group(1).equals(kind)) {
                found.add(block.group(2));
            }
        }
        return found;
    }

    /** The rows become one program, which ends with another code than 0 if an answer is not as told. */
    private static void callsAnswer(Path place) throws IOException, InterruptedException {
        StringBuilder methods = new StringBuilder();
        StringBuilder rows = new StringBuilder();
        for (String block : blocks("java")) {
            if (block.startsWith("static ")) {
                methods.append(block);
                continue;
            }
            for (String row : block.split("\n")) {
                rows.append(told(row)).append('\n');
            }
        }
        String program = "public final class Page {\n static int wrong;\n" + methods
                + "static void told(String call, int got, int due) {\n if (got != due) {\n wrong++;\n"
                + "System.out.println(\"README.md: \" + call + \" answered \" + got);\n }\n }\n"
                + "public static void main(String[] args) {\n" + rows + "System.exit(wrong == 0 ? 0 : 1);\n }\n}\n";
        Files.writeString(place.resolve("Page.java"), program);
        String classes = new File(System.getProperty("java.class.path")).getAbsolutePath();
        DUE.same("the page's program compiles",
                run(place, "javac -cp '" + classes + "' -d page Page.java"), 0);
        DUE.same("the page's calls answer as it says",
                run(place, "java -cp '" + classes + ":page' Page"), 0);
    }

    private static String told(String row) {
        Matcher m = ROW.matcher(row);
        if (m.matches()) {
            return "told(\"" + m.group(1) + "\", " + m.group(1) + ", " + m.group(2) + ");";
        }
        DUE.isTrue("a row tells what it answers: " + row, row.startsWith("put(") || row.contains(" = new "));
        return row;
    }

    /** In a place like a clean checkout; all but .ci/run, by which this test itself is run. */
    private static void commandsRun(Path place) throws IOException, InterruptedException {
        Path checkout = Files.createDirectory(place.resolve("checkout"));
        Files.createSymbolicLink(checkout.resolve("src"), Path.of("src").toAbsolutePath());
        Files.createSymbolicLink(place.resolve("shared"), Path.of("../shared").toRealPath());
        int commands = 0;
        for (String block : blocks("sh")) {
            for (String command : block.split("\n")) {
                commands++;
                if (command.equals(ALL_TESTS)) {
                    DUE.isTrue(ALL_TESTS + " can be run", Files.isExecutable(Path.of(ALL_TESTS)));
                } else {
                    DUE.same(command, run(checkout, command), 0);
                }
            }
        }
        DUE.isTrue("there are commands", commands > 1);
    }

    private static void testsAreNamed() throws IOException {
        String page = Files.readString(PAGE);
        try (Stream<Path> files = Files.list(Path.of("src/test/java"))) {
            files.map(f -> f.getFileName().toString().replace(".java", "")).filter(name -> name.endsWith("Test"))
                    .forEach(name -> DUE.isTrue("the page names " + name, page.contains("`" + name + "`")));
        }
    }

    private static int run(Path where, String command) throws IOException, InterruptedException {
        Process process = new ProcessBuilder("sh", "-c", command).directory(where.toFile())
                .redirectErrorStream(true).start();
        process.getOutputStream().close();
        String said = new String(process.getInputStream().readAllBytes());
        int code = process.waitFor();
        if (code != 0) {
            System.out.print(said);
        }
        return code;
    }

    private static void clear(Path place) throws IOException {
        List<Path> all;
        try (Stream<Path> walk = Files.walk(place)) {
            all = walk.sorted(Comparator.reverseOrder()).toList();
        }
        for (Path one : all) {
            Files.delete(one);
        }
    }
}
