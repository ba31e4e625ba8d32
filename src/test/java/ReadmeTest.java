import java.io.ByteArrayOutputStream;
import java.io.IOException;
import java.io.PrintStream;
import java.nio.file.Files;
import java.nio.file.Path;
import java.util.ArrayList;
import java.util.Comparator;
import java.util.List;
import java.util.regex.Matcher;
import java.util.regex.Pattern;
import java.util.stream.Stream;

/** What README.md tells of the class, its use and its tests is so. */
public final class ReadmeTest {
    private static final Path SOURCES = Path.of("src", "test", "java");
    private static final Pattern BLOCK = Pattern.compile("(?ms)^```(\\w+)\\n(.*?)^```$");
    private static final Pattern PLACE = Pattern.compile("`((?:src|\\.ci)/[^` ]*)`");
    private static int checked = 0;
    private static int wrong = 0;

    private final String text;

    private ReadmeTest(String text) {
        this.text = text;
    }

    public static void main(String[] args) throws IOException, InterruptedException {
        ReadmeTest readme = new ReadmeTest(Files.readString(Path.of("README.md")));
        readme.checkExample();
        readme.checkCommands();
        readme.checkScript();
        readme.checkNames();
        System.out.println(checked + " things that README.md tells, " + wrong + " of them not so");
        if (wrong > 0) {
            System.exit(1);
        }
    }

    private static void check(boolean so, String what) {
        checked++;
        if (!so) {
            wrong++;
            System.out.println("README.md: " + what);
        }
    }

    private List<String> blocks(String kind) {
        List<String> blocks = new ArrayList<>();
        Matcher all = BLOCK.matcher(text);
        while (all.find()) {
            if (all.group(1).equals(kind)) {
                blocks.add(all.group(2));
            }
        }
        check(!blocks.isEmpty(), "it has no block of " + kind);
        return blocks;
    }

    private void checkExample() throws IOException {
        String source = Files.readString(SOURCES.resolve("Example.java"));
        check(blocks("java").contains(source), "Example.java is not as it stands there");
        PrintStream screen = System.out;
        ByteArrayOutputStream printed = new ByteArrayOutputStream();
        System.setOut(new PrintStream(printed, true));
        try {
            Example.main(new String[0]);
        } finally {
            System.setOut(screen);
        }
        String told = printed.toString().replace(System.lineSeparator(), "\n");
        check(blocks("text").contains(told), "Example prints\n" + told);
    }

    /** Runs the commands, but has them write elsewhere; .ci/run would run this test again. */
    private void checkCommands() throws IOException, InterruptedException {
        Path out = Files.createTempDirectory("readme");
        try {
            for (String block : blocks("sh")) {
                for (String command : block.split("\n")) {
                    if (command.equals(".ci/run")) {
                        check(Files.isExecutable(Path.of(command)), command + " can't be run");
                    } else {
                        checkCommand(command, command.replaceFirst(" out ", " '" + out + "' "));
                    }
                }
            }
        } finally {
            remove(out);
        }
    }

    private static void checkCommand(String told, String command)
            throws IOException, InterruptedException {
        Process process = new ProcessBuilder("sh", "-c", command).redirectErrorStream(true).start();
        String printed = new String(process.getInputStream().readAllBytes());
        int code = process.waitFor();
        check(code == 0, told + " ends with " + code + ", and prints\n" + printed);
    }

    private static void remove(Path directory) throws IOException {
        List<Path> all;
        try (Stream<Path> walk = Files.walk(directory)) {
            all = walk.sorted(Comparator.reverseOrder()).toList();
        }
        for (Path path : all) {
            Files.delete(path);
        }
    }

    private void checkScript() {
        for (String block : blocks("script")) {
            Caller house = new Caller();
            String[] lines = block.split("\n");
            for (int i = 0; i < lines.length; i++) {
                for (Script.Row row : Script.rows(lines[i], i + 1)) {
                    if (row.name().equals("new")) {
                        house = new Caller();
                        continue;
                    }
                    String told = Script.answer(row, house);
                    check(told.equals(row.due()), row.text() + "   but it answered " + told);
                }
            }
        }
    }

    /** The places of the project that it names are there, and it names all classes inside and all tests. */
    private void checkNames() throws IOException {
        Matcher places = PLACE.matcher(text);
        while (places.find()) {
            check(Files.exists(Path.of(places.group(1))), "there is no " + places.group(1));
        }
        for (Class<?> inside : LibraryHouse.class.getDeclaredClasses()) {
            check(text.contains("`" + inside.getSimpleName() + "`"), "it names no " + inside);
        }
        try (var tests = Files.newDirectoryStream(SOURCES, "*Test.java")) {
            for (Path test : tests) {
                String name = test.getFileName().toString().replace(".java", "");
                check(text.contains("- `" + name + "`: "), "it does not tell what " + name + " does");
            }
        }
    }
}
