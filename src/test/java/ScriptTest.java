import java.io.IOException;
import java.lang.reflect.Method;
import java.nio.file.Files;
import java.nio.file.Path;
import java.util.ArrayList;
import java.util.HashMap;
import java.util.List;
import java.util.Map;
import java.util.Set;
import java.util.TreeSet;

/**
 * Runs the scripts under src/test/scripts, a call a line with the answer that is due. README.md
 * tells their form.
 */
public final class ScriptTest {
    private static final Path SCRIPTS = Path.of("src", "test", "scripts");
    private static final Map<String, Method> METHODS = new HashMap<>();
    private static int right = 0;
    private static int wrong = 0;
    private static final Set<String> CALLED = new TreeSet<>();

    private LibraryHouse house = new LibraryHouse();
    private final String place;

    private ScriptTest(String place) {
        this.place = place;
    }

    public static void main(String[] args) throws IOException {
        for (Method method : LibraryHouse.class.getDeclaredMethods()) {
            if (java.lang.reflect.Modifier.isPublic(method.getModifiers())) {
                METHODS.put(method.getName(), method);
            }
        }
        Set<Path> files = new TreeSet<>();
        try (var list = Files.newDirectoryStream(SCRIPTS, "*.txt")) {
            list.forEach(files::add);
        }
        for (Path file : files) {
            new ScriptTest(file.getFileName().toString()).run(Files.readAllLines(file));
        }
        Set<String> missing = new TreeSet<>(METHODS.keySet());
        missing.removeAll(CALLED);
        if (!missing.isEmpty()) {
            System.out.println("no script calls " + missing);
            wrong++;
        }
        System.out.println(right + " answers as due, " + wrong + " not");
        if (wrong > 0) {
            System.exit(1);
        }
    }

    private void run(List<String> lines) {
        for (int i = 0; i < lines.size(); i++) {
            String line = lines.get(i).trim();
            try {
                if (line.startsWith("times ")) {
                    String[] parts = line.split(" ", 3);
                    for (int n = 1; n <= Integer.parseInt(parts[1]); n++) {
                        row(parts[2].replace("%i", String.valueOf(n))
                                .replace("%4", String.format("%04d", n)), i + 1);
                    }
                } else if (!line.isEmpty() && !line.startsWith("#")) {
                    row(line, i + 1);
                }
            } catch (ReflectiveOperationException | RuntimeException thrown) {
                wrong++;
                System.out.println(place + ":" + (i + 1) + ": " + line + " threw " + thrown
                        + " by " + thrown.getCause());
            }
        }
    }

    private void row(String line, int number) throws ReflectiveOperationException {
        List<String> words = split(line);
        if (words.get(0).equals("new")) {
            house = new LibraryHouse();
            return;
        }
        String want = words.remove(words.size() - 1);
        if (!words.remove(words.size() - 1).equals("=")) {
            throw new IllegalArgumentException("no answer is told");
        }
        String got = answer(words);
        if (want.startsWith("\"")) {
            want = plain(want);
        } else if (want.startsWith("@")) {
            want = String.valueOf(-1000 - Integer.parseInt(want.substring(1)));
        }
        if (got.equals(want)) {
            right++;
        } else {
            wrong++;
            System.out.println(place + ":" + number + ": " + line + "   but it answered "
                    + got.replace("\n", "\\n"));
        }
    }

    /** The words of a line; what stands in quotes is one, with them. */
    private static List<String> split(String line) {
        List<String> words = new ArrayList<>();
        StringBuilder word = new StringBuilder();
        boolean quoted = false;
        for (int i = 0; i < line.length(); i++) {
            char c = line.charAt(i);
            if (c == ' ' && !quoted) {
                words.add(word.toString());
                word.setLength(0);
                continue;
            }
            word.append(c);
            if (c == '\\' && quoted) {
                i++;
                word.append(line.charAt(i));
            } else if (c == '"') {
                quoted = !quoted;
            }
        }
        words.add(word.toString());
        return words;
    }

    private String answer(List<String> words) throws ReflectiveOperationException {
        switch (words.get(0)) {
            case "page": return page(words);
            case "hits": return list("hit");
            case "results": return list("result");
            case "dues": return list("due");
            case "claims": return list("claim");
            case "shelves": return list("shelf", Integer.parseInt(words.get(1)));
            case "queues": return list("queue", Integer.parseInt(words.get(1)));
            case "brokes": return list("broke", Integer.parseInt(words.get(1)));
            case "values": return values(Integer.parseInt(words.get(1)));
            default: return String.valueOf(call(words));
        }
    }

    private Object call(List<String> words) throws ReflectiveOperationException {
        Method method = METHODS.get(words.get(0));
        CALLED.add(words.get(0));
        List<Object> given = new ArrayList<>();
        for (String word : words.subList(1, words.size())) {
            if (word.startsWith("\"")) {
                house.end(0);
                Texts.feed(house, plain(word));
            } else if (word.equals("true") || word.equals("false")) {
                given.add(word.equals("true"));
            } else {
                given.add(Integer.parseInt(word));
            }
        }
        return method.invoke(house, given.toArray());
    }

    private static String plain(String quoted) {
        return quoted.substring(1, quoted.length() - 1).replace("\\n", "\n").replace("\\\"", "\"")
                .replace("\\e", "\u00e9").replace("\\r", "\u001e").replace("\\u", "\u001f")
                .replace("\\g", "\u001d");
    }

    private String page(List<String> words) {
        int length = house.print(Integer.parseInt(words.get(1)), Integer.parseInt(words.get(2)),
                Integer.parseInt(words.get(3)));
        StringBuilder page = new StringBuilder();
        for (int i = 0; i < length; i++) {
            page.append((char) house.printed(i));
        }
        return page.toString();
    }

    private String list(String name, int... ahead) throws ReflectiveOperationException {
        StringBuilder all = new StringBuilder();
        int told = 0;
        for (int i = 0; told != LibraryHouse.NONE && i < 10000; i++) {
            Method method = METHODS.get(name);
            told = (int) (ahead.length == 0 ? method.invoke(house, i)
                    : method.invoke(house, ahead[0], i));
            if (told != LibraryHouse.NONE) {
                all.append(i == 0 ? "" : " ").append(told);
            }
        }
        return all.toString();
    }

    private String values(int tag) {
        StringBuilder all = new StringBuilder();
        for (int i = 0; house.value(tag, i, -1) != LibraryHouse.NONE; i++) {
            all.append(i == 0 ? "" : "|");
            for (int k = 0; house.value(tag, i, k) != LibraryHouse.NONE; k++) {
                all.append((char) house.value(tag, i, k));
            }
            all.append(':').append(house.value(tag, i, -1));
        }
        return all.toString();
    }
}
