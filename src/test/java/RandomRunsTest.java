import java.lang.reflect.Method;
import java.util.ArrayList;
import java.util.HashMap;
import java.util.List;
import java.util.Map;
import java.util.Random;

/**
 * All promises: random runs of calls, the same in each run of this test, on LibraryHouse and on the
 * Model; every answer must be the same, and LibraryHouse must never throw.
 */
public final class RandomRunsTest {
    private static final int CALLS = 500;
    /** Of each call its arguments, a letter each, and how often it comes. */
    private static final String[] FACE = {
        "end|i|1", "tick|D|12", "record||12", "edit|r|6", "drop|r|2", "print|rwD|6", "printed|j|4",
        "heading||5", "rename|h|3", "broader|hh|4", "link|rih|10", "find||8", "hit|i|5",
        "value|qij|6", "reader|k|5", "copy|rk|10", "away|c|2", "rules||4", "closed|D|3",
        "lend|Rc|16", "renew|l|6", "back|c|6", "hold|Rrn|12", "unhold|Rr|5", "pay|R$|3",
        "state|cw|10", "queue|ri|5", "owes|R|3", "serial|r|2", "issue|sjw|4", "came|si|4",
        "claim|i|5", "fund|$|2", "order|F$|5", "invoice|o$|4", "cancel|o|3", "transfer|FF$|3",
        "money|Fw|5", "pack||3", "answers|ST|4", "alter|pSib|6", "lose|pS|4", "mend|p|5",
        "octet|pi|4", "load|S|3", "harvest|DD|3", "next|t|8", "sync||2", "power|#|1", "count|w|5",
        "broken|w|3", "home|cP|4", "pickup|RP|4", "routes||3", "bring|cP|6", "where|cw|6",
        "book|RcDD|8", "unbook|B|3", "mark|c|6", "shelf|Pi|6", "checks||3", "strict|T|2",
        "broke|ri|4", "batch||6", "result|i|5", "retention||3", "freeze|rT|2", "due|i|4",
        "dispose||2", "exchange||8", "deed||2", "done|T|2", "tally|w|4",
    };
    private static final String[] WORDS = {"lakes", "Lakes", "of", "2", "10", "007", "7", "The",
        "halm", "maps", "ma", "Orla", "LAKES", "a", "old", "x-y", "abcdefghijklm", "it's"};

    private final Random random;
    private final LibraryHouse house = new LibraryHouse();
    private final Model model = new Model();
    private final List<String> told = new ArrayList<>();
    private static final Map<String, Method> METHODS = new HashMap<>();
    private static final Map<String, int[]> SEEN = new HashMap<>();
    private int calls = 0;
    private boolean failed = false;

    private RandomRunsTest(long seed) {
        random = new Random(seed);
    }

    public static void main(String[] args) {
        int runs = args.length > 0 ? Integer.parseInt(args[0]) : 1500;
        int first = args.length > 1 ? Integer.parseInt(args[1]) : 0;
        for (Method method : LibraryHouse.class.getDeclaredMethods()) {
            if (java.lang.reflect.Modifier.isPublic(method.getModifiers())) {
                METHODS.put(method.getName(), method);
            }
        }
        int wrong = 0;
        for (int seed = first; seed < first + runs && wrong < 3; seed++) {
            wrong += new RandomRunsTest(seed).run(seed) ? 0 : 1;
        }
        for (String line : FACE) {
            int[] seen = SEEN.getOrDefault(line.substring(0, line.indexOf('|')), new int[2]);
            if (args.length > 0) {
                System.out.println(line + ": " + seen[0] + " refused, " + seen[1] + " not");
            } else if (seen[1] == 0) {
                System.out.println(line + " was never answered without a refusal");
                wrong++;
            }
        }
        System.out.println(runs + " runs, " + wrong + " of them wrong");
        if (wrong > 0) {
            System.exit(1);
        }
    }

    private boolean run(long seed) {
        int[] weight = weights();
        if (random.nextInt(8) != 0) {
            furnish();
        }
        while (calls < CALLS && !failed) {
            step(weight);
        }
        sweep();
        if (failed) {
            System.out.println("seed " + seed + ":");
            int from = Math.max(0, told.size() - 400);
            for (String line : told.subList(from, told.size())) {
                System.out.println("  " + line);
            }
        }
        return !failed;
    }

    /** Most runs begin with a house in which much can be done. */
    private void furnish() {
        feed("* * " + (1 + random.nextInt(9)) + " " + random.nextInt(4) + " " + random.nextInt(9)
                + " " + random.nextInt(300) + " " + random.nextInt(2000) + "\n");
        call("rules");
        for (int i = random.nextInt(4); i >= 0; i--) {
            call("reader", random.nextInt(3));
            feed("245 0" + random.nextInt(5) + "$a" + row() + "\n650  0$a" + word() + "\n");
            call("record");
            feed(word() + i);
            call("heading");
        }
        for (int i = random.nextInt(8); i >= 0; i--) {
            call("copy", near(3), random.nextInt(3));
        }
        call("fund", random.nextInt(5000));
        if (random.nextBoolean()) {
            call("sync");
        }
    }

    /** Each run likes some calls more than others, so that the house gets deep here and there. */
    private int[] weights() {
        int[] weight = new int[FACE.length];
        for (int i = 0; i < FACE.length; i++) {
            weight[i] = Integer.parseInt(FACE[i].substring(FACE[i].lastIndexOf('|') + 1));
            weight[i] *= random.nextInt(4) == 0 ? 6 : random.nextInt(3) == 0 ? 0 : 2;
            weight[i] = FACE[i].matches("(power|done|drop|away).*") ? (weight[i] + 2) / 3 : weight[i];
            if (FACE[i].matches("(record|reader|copy|rules)\\|.*") && weight[i] == 0) {
                weight[i] = 5;
            }
        }
        return weight;
    }

    private void step(int[] weight) {
        int all = 0;
        for (int w : weight) {
            all += w;
        }
        int at = random.nextInt(all);
        int which = 0;
        while (at >= weight[which]) {
            at -= weight[which];
            which++;
        }
        String[] parts = FACE[which].split("\\|");
        if (Model.TEXTS.contains(parts[0])) {
            feed(text(parts[0]));
        } else if (random.nextInt(200) == 0) {
            feed("loose");
        }
        if (parts[0].equals("power") && random.nextInt(4) != 0) {
            call("sync");
        }
        int[] a = new int[parts[1].length()];
        for (int i = 0; i < a.length; i++) {
            a[i] = argument(parts[1].charAt(i));
        }
        call(parts[0], a);
    }

    private void call(String name, int... a) {
        if (failed) {
            return;
        }
        calls++;
        int want = model.call(name, a);
        Object got;
        try {
            Method method = METHODS.get(name);
            Object[] given = new Object[a.length];
            for (int i = 0; i < a.length; i++) {
                given[i] = method.getParameterTypes()[i] == boolean.class ? a[i] == 1 : (Object) a[i];
            }
            got = method.invoke(house, given);
        } catch (ReflectiveOperationException thrown) {
            got = thrown.getCause();
        }
        told.add(name + java.util.Arrays.toString(a) + " = " + want);
        boolean refused = want < 0 && (!name.equals("pay") || want <= -1000000);
        SEEN.computeIfAbsent(name, n -> new int[2])[refused ? 0 : 1]++;
        if (!got.equals(want)) {
            failed = true;
            told.add("  but LibraryHouse answered " + got);
        }
    }

    private void feed(String text) {
        told.add("text " + text.replace("\n", "\\n"));
        int mark = told.size();
        for (int[] word : Texts.words(text)) {
            call("feed", word);
        }
        call("end", text.length());
        if (!failed) {
            told.subList(mark, told.size()).clear();
        }
    }

    /** At the end of a run all that can be asked is asked. */
    private void sweep() {
        for (int what = -1; what <= 12; what++) {
            call("count", what);
            call("tally", what);
            call("broken", what);
            call("load", what);
            call("hit", what);
            call("result", what);
            call("due", what);
            call("claim", what);
            call("next", what);
        }
        for (int i = 0; i <= 30; i++) {
            for (int what = 0; what <= 4; what++) {
                call("state", i, what);
                call("where", i, what);
                call("queue", i, what);
                call("broke", i, what);
                call("money", i, what);
                call("octet", i, what);
                call("issue", i % 4, i, what);
                call("shelf", what, i);
            }
            call("owes", i);
            call("value", 650, i, -1);
            call("value", 245, i, 2);
            for (int form = 0; form <= 1; form++) {
                call("print", i, form, model.call("count", 2) - i % 3);
                for (int k = 0; k < 60; k += 7) {
                    call("printed", k + form);
                }
            }
        }
    }

    private int near(int what) {
        int number = model.call("count", what);
        return random.nextInt(12) == 0 ? random.nextInt(number + 3) - 1
                : number == 0 ? 1 : 1 + random.nextInt(number);
    }

    private int argument(char kind) {
        int today = model.call("count", 2);
        switch (kind) {
            case 'r': return near(3);
            case 'h': return random.nextInt(5) == 0 ? 0 : near(5);
            case 'R': return near(6);
            case 'c': return near(7);
            case 'l': return near(8);
            case 'o': return near(10);
            case 'p': return near(11);
            case 'B': return random.nextInt(model.call("tally", 2) + 2);
            case 'F': return random.nextInt(6) == 0 ? 0 : 1 + random.nextInt(3);
            case 's': return random.nextInt(4) == 0 ? 0 : random.nextInt(3);
            case 't': return random.nextInt(6);
            case 'k': return random.nextInt(25) == 0 ? random.nextInt(9) - 2 : random.nextInt(3);
            case 'S': return random.nextInt(20) == 0 ? random.nextInt(9) - 2 : random.nextInt(6);
            case 'P': return random.nextInt(20) == 0 ? random.nextInt(9) - 2 : random.nextInt(4);
            case 'n': return random.nextInt(20) == 0 ? random.nextInt(20) - 5 : random.nextInt(4);
            case 'w': return random.nextInt(15) == 0 ? random.nextInt(20) - 3 : random.nextInt(4);
            case 'T': return random.nextInt(3) == 0 ? 0 : 1;
            case 'b': return random.nextInt(5) == 0 ? random.nextInt() : 65 + random.nextInt(2);
            case 'i': return random.nextInt(8) - (random.nextInt(8) == 0 ? 1 : 0);
            case 'j': return random.nextInt(10) == 0 ? random.nextInt(400) - 3 : random.nextInt(9) - 1;
            case 'q': return new int[] {245, 650, 100, 700, 1, 20}[random.nextInt(6)];
            case '#': return random.nextInt(10) == 0 ? random.nextInt(1200) - 100
                    : random.nextInt(4) != 0 ? 1000 : random.nextInt(1000);
            case '$': return random.nextInt(10) == 0
                    ? new int[] {-1, 0, 1, 100000, 100001, 1000000, 1000001}[random.nextInt(7)]
                    : random.nextInt(1500);
            case 'D': return random.nextInt(60) == 0 ? new int[] {-1, 0, 50000, 50001,
                Integer.MAX_VALUE, Integer.MIN_VALUE}[random.nextInt(6)]
                    : today + random.nextInt(12) - (random.nextInt(3) == 0 ? 6 : 0);
            default: throw new IllegalStateException("" + kind);
        }
    }

    // ---- texts

    private String text(String call) {
        StringBuilder s = new StringBuilder();
        switch (call) {
            case "record":
            case "edit":
                for (int i = random.nextInt(random.nextInt(20) == 0 ? 14 : 4); i >= 0; i--) {
                    s.append(field());
                }
                break;
            case "heading":
            case "rename": s.append(row()); break;
            case "find": s.append(question(0)); break;
            case "rules": s.append(lines(21, 0)); break;
            case "routes": s.append(lines(13, 1)); break;
            case "checks": s.append(lines(11, 2)); break;
            case "retention": s.append(lines(9, 3)); break;
            case "batch": s.append(question(0)).append('\n').append(lines(9, 4)); break;
            case "serial":
                s.append("every ").append(random.nextInt(370));
                if (random.nextBoolean()) {
                    s.append(" skip ").append(random.nextInt(5));
                    for (int m = random.nextInt(7); m < 13 && random.nextBoolean(); m++) {
                        s.append(',').append(m);
                    }
                }
                if (random.nextBoolean()) {
                    s.append(" volume ").append(random.nextInt(6));
                }
                break;
            case "pack":
                for (int i = random.nextInt(random.nextInt(10) == 0 ? 210 : 9); i > 0; i--) {
                    s.append((char) (65 + random.nextInt(2)));
                }
                break;
            case "mark":
                s.append(random.nextInt(3) == 0 ? random.nextInt(1005) : random.nextInt(3));
                if (random.nextBoolean()) {
                    s.append('.').append(random.nextInt(3) == 0 ? random.nextInt(20000)
                            : random.nextInt(30));
                }
                if (random.nextBoolean()) {
                    s.append(' ').append(new String[] {"A", "AB", "B", "ABC", "ABCD", "a", ""}
                            [random.nextInt(7)]);
                }
                break;
            default: s.append(message()); break;
        }
        if (random.nextInt(12) == 0) {
            spoil(s);
        }
        s.setLength(Math.min(s.length(), 2000));
        return s.toString();
    }

    private void spoil(StringBuilder s) {
        int at = random.nextInt(s.length() + 1);
        String bytes = "0123456789 abtn=*\"()$#\n.,LA\u00e9\u0000";
        char b = bytes.charAt(random.nextInt(bytes.length()));
        switch (random.nextInt(3)) {
            case 0: s.insert(at, b); break;
            case 1: s.setLength(at); break;
            default:
                if (at < s.length()) {
                    s.setCharAt(at, b);
                }
                break;
        }
    }

    private String word() {
        return WORDS[random.nextInt(WORDS.length)];
    }

    private String row() {
        StringBuilder s = new StringBuilder(word());
        while (random.nextInt(3) == 0) {
            s.append(random.nextInt(8) == 0 ? "," : " ").append(word());
        }
        if (random.nextInt(60) == 0) {
            s.append("0123456789012345678901234567890123456789");
            s.setLength(40 + random.nextInt(2));
        }
        return s.toString();
    }

    private String field() {
        String tag = new String[] {"001", "245", "245", "650", "650", "100", "700", "020", "999",
            "000", "010", "009"}[random.nextInt(random.nextInt(10) == 0 ? 12 : 9)];
        if (tag.startsWith("00")) {
            return tag + " " + row() + "\n";
        }
        StringBuilder s = new StringBuilder(tag).append(' ');
        s.append(" 0".charAt(random.nextInt(2))).append(" 024".charAt(random.nextInt(4)));
        for (int i = random.nextInt(random.nextInt(20) == 0 ? 7 : 2); i >= 0; i--) {
            s.append('$').append("aaabx9".charAt(random.nextInt(6))).append(row());
        }
        return s.append('\n').toString();
    }

    private String question(int depth) {
        StringBuilder s = new StringBuilder();
        int terms = random.nextInt(40) == 0 ? 19 : random.nextInt(3);
        for (int i = 0; i <= terms; i++) {
            s.append(i == 0 ? "" : new String[] {" and ", " or ", " not "}[random.nextInt(3)]);
            s.append(random.nextInt(6) == 0 && depth < 10 ? "(" + question(depth + 1) + ")" : term());
        }
        return s.toString();
    }

    private String term() {
        if (random.nextInt(4) == 0) {
            return "h=" + (random.nextInt(20) == 0 ? random.nextInt(90) : 1 + random.nextInt(5));
        }
        StringBuilder s = new StringBuilder().append("tasnn".charAt(random.nextInt(5))).append('=');
        if (random.nextInt(3) == 0) {
            s.append('"').append(plainWord());
            for (int i = random.nextInt(random.nextInt(10) == 0 ? 6 : 2); i > 0; i--) {
                s.append(' ').append(plainWord());
            }
            return s.append('"').toString();
        }
        return s.append(plainWord()).append(random.nextInt(3) == 0 ? "*" : "").toString();
    }

    private String plainWord() {
        String word = word().toLowerCase();
        return random.nextInt(4) == 0 ? word.substring(0, 1) : word.matches("[a-z0-9]{1,12}")
                || random.nextInt(20) == 0 ? word : "of";
    }

    private String lines(int most, int kind) {
        StringBuilder s = new StringBuilder();
        int number = random.nextInt(25) == 0 ? most - random.nextInt(2) : 1 + random.nextInt(4);
        for (int i = 0; i < number; i++) {
            s.append(line(kind));
        }
        return s.toString();
    }

    private String line(int kind) {
        switch (kind) {
            case 0:
                return "01***".charAt(random.nextInt(5)) + " " + "01***".charAt(random.nextInt(5))
                        + " " + (1 + random.nextInt(20)) + " " + random.nextInt(4) + " "
                        + random.nextInt(9) + " " + random.nextInt(300) + " "
                        + random.nextInt(2000) + "\n";
            case 1: {
                StringBuilder days = new StringBuilder();
                for (int d = 0; d < 7; d++) {
                    days.append(random.nextInt(3) == 0 ? "" + d : "");
                }
                return random.nextInt(4) + " " + random.nextInt(4) + " "
                        + (days.length() == 0 ? "3" : days) + " " + (1 + random.nextInt(9)) + "\n";
            }
            case 2:
                return tagName() + " " + new String[] {"must", "once", "has a", "has b", "most 5",
                    "most 20", "most 40"}[random.nextInt(7)] + "\n";
            case 3:
                return tagName() + " " + random.nextInt(12) + " " + word() + "\n";
            default:
                switch (random.nextInt(3)) {
                    case 0: return "del " + tagName() + "\n";
                    case 1: return "set " + tagName() + " " + "abx9".charAt(random.nextInt(4)) + " "
                            + row() + "\n";
                    default: return "add " + field();
                }
        }
    }

    private String tagName() {
        return new String[] {"245", "650", "100", "700", "020", "001", "000"}
                [random.nextInt(random.nextInt(15) == 0 ? 7 : 5)];
    }

    private String message() {
        String end = " #" + random.nextInt(2);
        switch (random.nextInt(6)) {
            case 0: return "L " + argument('R') + " " + argument('c') + end;
            case 1: return "B " + argument('c') + " " + argument('P') + end;
            case 2: return "R " + argument('l') + end;
            case 3: return "H " + argument('R') + " " + argument('r') + " " + argument('n') + end;
            case 4: return "U " + argument('R') + " " + argument('r') + end;
            default: return "P " + argument('R') + " " + argument('$') + end;
        }
    }
}
