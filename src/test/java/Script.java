import java.util.ArrayList;
import java.util.List;
import java.util.regex.Matcher;
import java.util.regex.Pattern;

/** The rows of a script: calls with the answers that are due. README.md tells their form. */
final class Script {
    private static final Pattern SUM = Pattern.compile("%\\{(-?\\d+)\\*i([+-]\\d+)?}");
    private static final Pattern REPEATED = Pattern.compile("<(\\d+)\\*([^<>]*)>");

    /** One call of a script: its words, and the answer that is due. */
    record Row(String text, int line, List<String> words, String due) {
        String name() {
            return words.get(0);
        }
    }

    private Script() {
    }

    /** The rows of one line: none of a remark, several if there are ; or times in it. */
    static List<Row> rows(String line, int number) {
        List<Row> rows = new ArrayList<>();
        if (line.isBlank() || line.trim().startsWith("#")) {
            return rows;
        }
        for (String part : parts(line, ';')) {
            String text = part.trim();
            int times = 1;
            if (text.startsWith("times ")) {
                String[] words = text.split(" ", 3);
                times = Integer.parseInt(words[1]);
                text = words[2];
            }
            for (int i = 1; i <= times; i++) {
                rows.add(row(numbered(text, i), number));
            }
        }
        return rows;
    }

    private static String numbered(String text, int i) {
        Matcher sums = SUM.matcher(text);
        String summed = sums.replaceAll(sum -> {
            int more = sum.group(2) == null ? 0 : Integer.parseInt(sum.group(2));
            return String.valueOf(Integer.parseInt(sum.group(1)) * i + more);
        });
        return summed.replace("%i", String.valueOf(i)).replace("%4", String.format("%04d", i));
    }

    private static Row row(String text, int number) {
        List<String> words = parts(text, ' ');
        if (words.size() == 1) {
            return new Row(text, number, words, "");
        }
        if (words.size() < 3 || !words.get(words.size() - 2).equals("=")) {
            throw new IllegalArgumentException("line " + number + " tells no answer: " + text);
        }
        return new Row(text, number, words.subList(0, words.size() - 2),
                due(words.get(words.size() - 1)));
    }

    private static String due(String told) {
        if (told.startsWith("\"")) {
            return plain(told);
        }
        if (told.startsWith("@")) {
            return String.valueOf(-1000 - Integer.parseInt(told.substring(1)));
        }
        return String.valueOf(number(told));
    }

    private static int number(String told) {
        switch (told) {
            case "MAX": return Integer.MAX_VALUE;
            case "MIN": return Integer.MIN_VALUE;
            default: return Integer.parseInt(told);
        }
    }

    /** What stands between separators; one in quotes is none. */
    private static List<String> parts(String text, char separator) {
        List<String> parts = new ArrayList<>();
        StringBuilder part = new StringBuilder();
        boolean quoted = false;
        for (int i = 0; i < text.length(); i++) {
            char c = text.charAt(i);
            if (c == separator && !quoted) {
                parts.add(part.toString());
                part.setLength(0);
                continue;
            }
            part.append(c);
            if (c == '\\' && quoted) {
                i++;
                part.append(text.charAt(i));
            } else if (c == '"') {
                quoted = !quoted;
            }
        }
        parts.add(part.toString());
        return parts;
    }

    /** The text that stands in quotes, with <3*ab> as ababab. */
    private static String plain(String quoted) {
        String text = quoted.substring(1, quoted.length() - 1);
        for (Matcher all = REPEATED.matcher(text); all.find(); all = REPEATED.matcher(text)) {
            text = all.replaceAll(one -> Matcher.quoteReplacement(
                    one.group(2).repeat(Integer.parseInt(one.group(1)))));
        }
        return text.replace("\\n", "\n").replace("\\\"", "\"").replace("\\e", "\u00e9")
                .replace("\\r", "\u001e").replace("\\u", "\u001f").replace("\\g", "\u001d")
                .replace("\\d", "\u007f");
    }

    /** What a house answers to a row; what asks for a whole list answers it as a text. */
    static String answer(Row row, Caller house) {
        List<String> words = row.words();
        switch (row.name()) {
            case "page": return page(house, given(words, house));
            case "hits": return list(house, "hit");
            case "results": return list(house, "result");
            case "dues": return list(house, "due");
            case "claims": return list(house, "claim");
            case "shelves": return list(house, "shelf", number(words.get(1)));
            case "queues": return list(house, "queue", number(words.get(1)));
            case "brokes": return list(house, "broke", number(words.get(1)));
            case "octets": return list(house, "octet", number(words.get(1)));
            case "values": return values(house, number(words.get(1)));
            case "constant": return constant(words.get(1));
            case "tape": return String.valueOf(tape(words.get(1), house));
            default: return String.valueOf(house.call(row.name(), given(words, house)));
        }
    }

    private static int tape(String quoted, Caller house) {
        String text = plain(quoted);
        house.tape(text);
        return text.length();
    }

    private static Object[] given(List<String> words, Caller house) {
        List<Object> given = new ArrayList<>();
        for (String word : words.subList(1, words.size())) {
            if (word.startsWith("\"")) {
                house.tape(plain(word));
            } else if (word.equals("true") || word.equals("false")) {
                given.add(word.equals("true"));
            } else {
                given.add(number(word));
            }
        }
        return given.toArray();
    }

    private static String page(Caller house, Object... given) {
        int length = house.call("print", given);
        StringBuilder page = new StringBuilder();
        for (int i = 0; i < length; i++) {
            page.append((char) house.call("printed", i));
        }
        return page.toString();
    }

    private static String list(Caller house, String name, int... ahead) {
        StringBuilder all = new StringBuilder();
        int told = 0;
        for (int i = 0; told != LibraryHouse.NONE && i < 10000; i++) {
            told = ahead.length == 0 ? house.call(name, i) : house.call(name, ahead[0], i);
            if (told != LibraryHouse.NONE) {
                all.append(i == 0 ? "" : " ").append(told);
            }
        }
        return all.toString();
    }

    private static String values(Caller house, int tag) {
        StringBuilder all = new StringBuilder();
        int have = house.call("value", tag, 0, -1);
        for (int i = 0; have != LibraryHouse.NONE; i++) {
            all.append(i == 0 ? "" : "|");
            int b = house.call("value", tag, i, 0);
            for (int k = 1; b != LibraryHouse.NONE; k++) {
                all.append((char) b);
                b = house.call("value", tag, i, k);
            }
            all.append(':').append(have);
            have = house.call("value", tag, i + 1, -1);
        }
        return all.toString();
    }

    private static String constant(String name) {
        try {
            return String.valueOf(LibraryHouse.class.getField(name).getInt(null));
        } catch (ReflectiveOperationException none) {
            return "no constant " + name;
        }
    }
}
