import java.io.IOException;
import java.nio.file.Files;
import java.nio.file.Path;
import java.util.ArrayList;
import java.util.Arrays;
import java.util.LinkedHashMap;
import java.util.List;
import java.util.Map;

/** The document's sections, and which of their words a test quotes. */
final class Document {
    private static final Path PLACE = Path.of("..", "shared", "DOC.md");
    /** The section, as "Terms" or "Promise 5", with its text in one line. */
    private final Map<String, String> texts = new LinkedHashMap<>();
    private final Map<String, boolean[]> quoted = new LinkedHashMap<>();

    Document() throws IOException {
        if (!isThere()) {
            System.out.println("quotes are not compared: there is no " + PLACE);
            return;
        }
        String section = "";
        StringBuilder text = new StringBuilder();
        for (String line : Files.readAllLines(PLACE)) {
            if (line.startsWith("## ")) {
                keep(section, text);
                section = line.substring(3).split(":")[0];
            } else if (!line.startsWith("```") && !line.startsWith("Ahead of the calls ")) {
                text.append(line.replaceFirst("^`(int )?\\w+\\([^)]*\\)`: ", "")).append(' ');
            }
        }
        keep(section, text);
    }

    private static boolean isThere() {
        return Files.isReadable(PLACE);
    }

    private void keep(String section, StringBuilder text) {
        String plain = text.toString().trim().replaceAll("\\s+", " ");
        texts.put(section, plain);
        quoted.put(section, new boolean[plain.length()]);
        text.setLength(0);
    }

    /**
     * Marks a sentence, or a part of one, as quoted: whether it stands in the section. What is left
     * out of it is told as dots.
     */
    boolean quote(String section, String sentence) {
        if (!isThere()) {
            return true;
        }
        String text = texts.get(section);
        String[] ends = sentence.split(" \\.\\.\\. ");
        int from = text == null ? -1 : text.indexOf(ends[0]);
        int last = from < 0 ? -1 : text.indexOf(ends[ends.length - 1], from);
        if (last < 0) {
            return false;
        }
        Arrays.fill(quoted.get(section), from, last + ends[ends.length - 1].length(), true);
        return true;
    }

    /** A section in one line; empty if there is none such. */
    String text(String section) {
        return texts.getOrDefault(section, "");
    }

    /** The sections that promise something, each with what of it nobody quoted. */
    List<String> unquoted() {
        List<String> left = new ArrayList<>();
        for (Map.Entry<String, String> entry : texts.entrySet()) {
            String section = entry.getKey();
            if (section.equals("Terms") || section.startsWith("Promise ")) {
                String rest = rest(entry.getValue(), quoted.get(section));
                if (!rest.isEmpty()) {
                    left.add(section + ": " + rest);
                }
            }
        }
        return left;
    }

    private static String rest(String text, boolean[] marks) {
        StringBuilder rest = new StringBuilder();
        for (int i = 0; i < text.length(); i++) {
            boolean word = Character.isLetterOrDigit(text.charAt(i));
            if (!marks[i] && (word || rest.length() > 0)) {
                rest.append(text.charAt(i));
            } else if (marks[i] && rest.length() > 0 && rest.charAt(rest.length() - 1) != '|') {
                rest.append(" |");
            }
        }
        return rest.toString().replaceAll("[^A-Za-z0-9]+$", "");
    }
}
