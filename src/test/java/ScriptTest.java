import java.io.IOException;
import java.nio.file.Files;
import java.nio.file.Path;
import java.util.List;
import java.util.Set;
import java.util.TreeSet;

/** Runs the scripts under src/test/scripts, named by the promises that they are for. */
public final class ScriptTest {
    private static final Path SCRIPTS = Path.of("src", "test", "scripts");
    private static final Set<String> CALLED = new TreeSet<>();
    private static int right = 0;
    private static int wrong = 0;

    private Caller house = new Caller();
    private final String place;

    private ScriptTest(String place) {
        this.place = place;
    }

    public static void main(String[] args) throws IOException {
        Set<Path> files = new TreeSet<>();
        try (var list = Files.newDirectoryStream(SCRIPTS, "*.txt")) {
            list.forEach(files::add);
        }
        for (Path file : files) {
            new ScriptTest(file.getFileName().toString()).run(Files.readAllLines(file));
        }
        Set<String> missing = new TreeSet<>(Caller.METHODS.keySet());
        missing.removeAll(CALLED);
        if (!missing.isEmpty()) {
            System.out.println("no script calls " + missing);
            wrong++;
        }
        System.out.println(right + " answers as due, " + wrong + " not");
        if (wrong > 0) {
            System.exit(1);
        }
    }

    private void run(List<String> lines) {
        for (int i = 0; i < lines.size(); i++) {
            for (Script.Row row : Script.rows(lines.get(i), i + 1)) {
                check(row);
            }
        }
    }

    private void check(Script.Row row) {
        if (row.name().equals("new")) {
            house = new Caller();
            return;
        }
        CALLED.add(row.name());
        String told;
        try {
            told = Script.answer(row, house);
        } catch (RuntimeException thrown) {
            told = thrown.toString();
        }
        if (told.equals(row.due())) {
            right++;
        } else {
            wrong++;
            System.out.println(place + ":" + row.line() + ": " + row.text()
                    + "   but it answered " + told.replace("\n", "\\n"));
        }
    }
}
