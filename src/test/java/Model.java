import java.util.ArrayList;
import java.util.Arrays;
import java.util.Comparator;
import java.util.HashMap;
import java.util.HashSet;
import java.util.List;
import java.util.Map;
import java.util.Set;
import java.util.TreeSet;

/**
 * The document told once more, with all of Java's library and no thought of room or speed, so that
 * random runs of LibraryHouse can be compared with it. It shares no code with LibraryHouse.
 */
final class Model {
    static final Set<String> TEXTS = Set.of("record", "edit", "heading", "rename", "find", "rules",
            "serial", "pack", "routes", "mark", "checks", "batch", "retention", "exchange");
    static final Set<String> ACTS = Set.of("tick", "record", "edit", "drop", "heading", "rename",
            "broader", "link", "reader", "copy", "away", "rules", "closed", "lend", "renew", "back",
            "hold", "unhold", "pay", "serial", "came", "fund", "order", "invoice", "cancel",
            "transfer", "pack", "answers", "alter", "lose", "mend", "home", "pickup", "routes",
            "bring", "book", "unbook", "mark", "checks", "strict", "batch", "retention", "freeze",
            "dispose", "exchange");
    private static final int NONE = -1;
    private static final int RANGE = -2;
    private static final int STATE = -3;
    private static final int FULL = -4;

    private record Act(String name, int[] a, String text) { }

    private String tape = "";
    private String printed = "";
    private final List<Act> acts = new ArrayList<>();
    private int laid = 0;
    private int laidAhead = 0;
    private boolean synced = false;
    private int deedAt = -1;
    private final Map<Integer, int[]> tokens = new HashMap<>();
    private World w = new World();

    int call(String name, int... a) {
        String text = "";
        if (TEXTS.contains(name)) {
            text = tape;
            tape = "";
        }
        if (ACTS.contains(name)) {
            w.acted = true;
            int answer;
            try {
                answer = w.act(name, a, text);
            } catch (Refused refused) {
                w.acted = false;
                answer = refused.answer;
            }
            if (w.acted) {
                acts.add(new Act(name, a, text));
            }
            return answer;
        }
        try {
            return ask(name, a, text);
        } catch (Refused refused) {
            return refused.answer;
        }
    }

    private void rebuild(int left) {
        acts.subList(left, acts.size()).clear();
        w = new World();
        for (Act act : acts) {
            w.act(act.name, act.a, act.text);
        }
        w.found.clear();
        w.results.clear();
        tape = "";
        printed = "";
        tokens.clear();
        deedAt = -1;
    }

    private int ask(String name, int[] a, String text) {
        switch (name) {
            case "feed":
                if (tape.length() + 20 > 2000) {
                    return FULL;
                }
                for (int x : a) {
                    for (int k = 3; k >= 0; k--) {
                        tape += (char) (x >>> 8 * k & 255);
                    }
                }
                return tape.length();
            case "end":
                none(a[0] < 0 || a[0] > tape.length());
                tape = tape.substring(0, a[0]);
                return a[0];
            case "print": {
                Rec r = w.rec(a[0]);
                none(r == null || a[2] < r.versions.get(0).day || r.gone >= 0 && a[2] >= r.gone);
                refuse(a[1] < 0 || a[1] > 1 || a[2] > w.today, RANGE);
                printed = a[1] == 0 ? plain(w.print(r, a[2])) : exchangeForm(w.print(r, a[2]));
                return printed.length();
            }
            case "printed":
                return at(printed, a[0]);
            case "find":
                w.search(new Parse(text).wholeQuestion());
                w.results.clear();
                return w.found.size();
            case "hit":
                return at(w.found, a[0]);
            case "result":
                return at(w.results, a[0]);
            case "value":
                return value(a[0], a[1], a[2]);
            case "harvest":
                for (int t = 1; t <= 10; t++) {
                    if (!tokens.containsKey(t)) {
                        tokens.put(t, new int[] {a[0], a[1], -5, 0});
                        return t;
                    }
                }
                return FULL;
            case "next":
                return next(a[0]);
            case "sync": {
                laidAhead = laid;
                laid = deedAt < 0 ? acts.size() : deedAt;
                synced = true;
                return laid - laidAhead;
            }
            case "power":
                refuse(a[0] < 0 || a[0] > 1000, RANGE);
                if (synced && a[0] < 1000) {
                    laid = laidAhead;
                }
                synced = false;
                rebuild(laid);
                return acts.size();
            case "deed":
                refuse(deedAt >= 0, STATE);
                deedAt = acts.size();
                return 1;
            case "done": {
                refuse(deedAt < 0, STATE);
                int size = acts.size() - deedAt;
                if (a[0] == 0) {
                    rebuild(deedAt);
                }
                deedAt = -1;
                return size;
            }
            case "count":
                return at(List.of(acts.size(), laid, w.today, w.recs.size(), w.versions,
                        w.heads.size(), w.readers.size(), w.copies.size(), w.loans.size(),
                        w.queue.size(), w.orders.size(), w.packs.size()), a[0]);
            case "tally":
                return at(List.of(deedAt < 0 ? 0 : 1, deedAt < 0 ? acts.size() : deedAt,
                        w.bookings.size(), w.routes.size(), w.checks.size(), w.keeps.size(),
                        w.strict ? 1 : 0,
                        (int) w.copies.stream().filter(c -> c.state == 4).count()), a[0]);
            case "broken":
                return a[0] >= 0 && a[0] <= 4 ? 0 : NONE;
            default:
                return w.ask(name, a);
        }
    }

    private int value(int tag, int i, int k) {
        Map<String, Integer> number = new HashMap<>();
        for (int f : w.found) {
            Rec r = w.rec(f);
            if (r.gone < 0) {
                Set<String> rows = new HashSet<>();
                for (Fld fld : w.print(r, w.today)) {
                    if (fld.tag == tag && fld.firstA() != null) {
                        rows.add(fld.firstA().row);
                    }
                }
                for (String row : rows) {
                    number.merge(row, 1, Integer::sum);
                }
            }
        }
        List<String> rows = new ArrayList<>(number.keySet());
        rows.sort(Comparator.<String>comparingInt(r -> -number.get(r))
                .thenComparing(Comparator.naturalOrder()));
        none(i < 0 || i >= rows.size() || k < -1);
        return k == -1 ? number.get(rows.get(i)) : at(rows.get(i), k);
    }

    private int next(int token) {
        int[] t = tokens.get(token);
        none(t == null);
        List<int[]> all = new ArrayList<>();
        for (int r = 1; r <= w.recs.size(); r++) {
            int day = w.rec(r).changed;
            if (day >= t[0] && day <= t[1] && (day > t[2] || day == t[2] && r > t[3])) {
                all.add(new int[] {day, r});
            }
        }
        all.sort(Comparator.<int[]>comparingInt(x -> x[0]).thenComparingInt(x -> x[1]));
        if (all.isEmpty()) {
            tokens.remove(token);
            return 0;
        }
        t[2] = all.get(0)[0];
        t[3] = all.get(0)[1];
        return t[3];
    }

    private static String plain(List<Fld> fields) {
        StringBuilder s = new StringBuilder();
        for (Fld f : fields) {
            s.append(String.format("%03d ", f.tag)).append(f.body('$')).append('\n');
        }
        return s.toString();
    }

    private static String exchangeForm(List<Fld> fields) {
        StringBuilder table = new StringBuilder();
        StringBuilder data = new StringBuilder();
        for (Fld f : fields) {
            String body = f.body((char) 31) + (char) 30;
            table.append(String.format("%03d%04d%05d", f.tag, body.length(), data.length()));
            data.append(body);
        }
        int base = 11 + table.length();
        return String.format("%05d%05d", base + data.length() + 1, base) + table + (char) 30 + data
                + (char) 29;
    }

    private static int at(String s, int i) {
        return i >= 0 && i < s.length() ? s.charAt(i) : NONE;
    }

    private static int at(List<Integer> list, int i) {
        return i >= 0 && i < list.size() ? list.get(i) : NONE;
    }

    static void refuse(boolean when, int answer) {
        if (when) {
            throw new Refused(answer);
        }
    }

    static void none(boolean when) {
        refuse(when, NONE);
    }

    static final class Refused extends RuntimeException {
        private static final long serialVersionUID = 1;
        final int answer;

        Refused(int answer) {
            super(null, null, false, false);
            this.answer = answer;
        }
    }

    private record Sub(char code, String row) { }

    private static final class Fld {
        int tag;
        String indicators = "";
        String control;
        final List<Sub> subs = new ArrayList<>();

        Sub firstA() {
            return subs.stream().filter(s -> s.code == 'a').findFirst().orElse(null);
        }

        List<String> rows() {
            return control != null ? List.of(control) : subs.stream().map(Sub::row).toList();
        }

        String body(char mark) {
            if (control != null) {
                return control;
            }
            StringBuilder s = new StringBuilder(indicators);
            for (Sub sub : subs) {
                s.append(mark).append(sub.code).append(sub.row);
            }
            return s.toString();
        }

        Fld twin() {
            Fld f = new Fld();
            f.tag = tag;
            f.indicators = indicators;
            f.control = control;
            f.subs.addAll(subs);
            return f;
        }
    }

    private record Link(int field, int heading, int day) { }

    private static final class Ver {
        int day;
        List<Fld> fields;
        final List<Link> links = new ArrayList<>();
    }

    private static final class Rec {
        final List<Ver> versions = new ArrayList<>();
        int gone = -1;
        int changed;
        boolean frozen;

        Ver latest() {
            return versions.get(versions.size() - 1);
        }
    }

    private static final class Head {
        final List<String> names = new ArrayList<>();
        final List<Integer> days = new ArrayList<>();
        int above;

        String name(int day) {
            String best = null;
            for (int i = 0; i < names.size(); i++) {
                best = days.get(i) <= day ? names.get(i) : best;
            }
            return best;
        }
    }

    private static final class Reader {
        int kind;
        int owes;
        int pickup;
    }

    private static final class Copy {
        int number;
        int record;
        int type;
        int state;
        int who;
        int loan;
        int day = -1;
        int at;
        int home;
        int sent = -1;
        String mark;
    }

    private static final class Loan {
        int reader;
        int copy;
        int due;
        int renewed;
        int cents;
        int cap;
        boolean ended;
    }

    private record Wait(int reader, int record, int rank) { }

    private static final class Booking {
        int reader;
        int copy;
        int from;
        int to;
        boolean taken;
    }

    private static final class Serial {
        int record;
        int volume;
        final List<Integer> days = new ArrayList<>();
        final Map<Integer, Integer> came = new HashMap<>();
    }

    private static final class Order {
        int fund;
        int cents;
        boolean closed;
    }

    private record Term(String kind, List<String> words, boolean star, int head) { }

    private record Join(String op, Object left, Object right) { }

    private record Check(int tag, String kind, int told) { }

    private record Keep(int tag, int days, String row) { }

    private record Step(String kind, int tag, char code, String row, Fld field) { }

    private record BatchText(Object question, List<Step> steps) { }

    /** Reads a text from its first byte on; what is WRONG is thrown. */
    private static final class Parse {
        private final String s;
        private int i = 0;
        private int terms = 0;

        Parse(String s) {
            this.s = s;
        }

        int peek() {
            return i < s.length() ? s.charAt(i) : -1;
        }

        Refused wrong(int place) {
            return new Refused(-1000 - place);
        }

        void must(boolean so, int place) {
            if (!so) {
                throw wrong(place);
            }
        }

        void lit(String word) {
            for (char c : word.toCharArray()) {
                must(peek() == c, i);
                i++;
            }
        }

        void end() {
            must(i == s.length(), i);
        }

        boolean ended() {
            return i == s.length();
        }

        String pick(String... words) {
            int far = i;
            for (String word : words) {
                int k = 0;
                while (k < word.length() && i + k < s.length() && s.charAt(i + k) == word.charAt(k)) {
                    k++;
                }
                if (k == word.length()) {
                    i += k;
                    return word;
                }
                far = Math.max(far, i + k);
            }
            throw wrong(far);
        }

        char of(String set) {
            must(peek() >= 0 && set.indexOf(peek()) >= 0, i);
            return s.charAt(i++);
        }

        int number(int low, int high) {
            int start = i;
            String digits = "";
            while (peek() >= '0' && peek() <= '9') {
                digits += s.charAt(i++);
            }
            must(digits.matches("0|[1-9][0-9]{0,4}"), start);
            int n = Integer.parseInt(digits);
            must(n >= low && n <= high, start);
            return n;
        }

        boolean rowByte() {
            return peek() >= 32 && peek() <= 126 && peek() != '$';
        }

        String row() {
            int start = i;
            must(rowByte(), i);
            while (rowByte()) {
                must(i - start < 40, i);
                i++;
            }
            return s.substring(start, i);
        }

        int tag(int low) {
            int start = i;
            String digits = "" + of("0123456789") + of("0123456789") + of("0123456789");
            must(Integer.parseInt(digits) >= low, start);
            return Integer.parseInt(digits);
        }

        char code() {
            return of("abcdefghijklmnopqrstuvwxyz0123456789");
        }

        Fld field() {
            Fld f = new Fld();
            f.tag = tag(1);
            lit(" ");
            if (f.tag < 10) {
                f.control = row();
            } else {
                f.indicators = "" + of(" 0123456789") + of(" 0123456789");
                do {
                    must(f.subs.size() < 5, i);
                    lit("$");
                    char code = code();
                    f.subs.add(new Sub(code, row()));
                } while (peek() == '$');
            }
            lit("\n");
            return f;
        }

        List<Fld> record() {
            List<Fld> fields = new ArrayList<>();
            do {
                must(fields.size() < 12, i);
                fields.add(field());
            } while (!ended());
            return fields;
        }

        Object wholeQuestion() {
            Object q = question(0);
            end();
            return q;
        }

        /** Sums of products: and first, then or and not from the left. */
        Object question(int depth) {
            Object sum = null;
            String sumOp = null;
            Object product = term(depth);
            while (peek() == ' ') {
                i++;
                String op = pick("and", "or", "not");
                lit(" ");
                if (op.equals("and")) {
                    product = new Join(op, product, term(depth));
                } else {
                    sum = sumOp == null ? product : new Join(sumOp, sum, product);
                    sumOp = op;
                    product = term(depth);
                }
            }
            return sumOp == null ? product : new Join(sumOp, sum, product);
        }

        Object term(int depth) {
            if (peek() == '(') {
                must(depth < 8, i);
                i++;
                Object q = question(depth + 1);
                lit(")");
                return q;
            }
            must(terms < 20, i);
            terms++;
            String kind = "" + of("tasnh");
            lit("=");
            if (kind.equals("h")) {
                return new Term(kind, List.of(), false, number(1, 80));
            }
            List<String> words = new ArrayList<>();
            if (peek() != '"') {
                words.add(word());
                boolean star = peek() == '*';
                i += star ? 1 : 0;
                return new Term(kind, words, star, 0);
            }
            lit("\"");
            words.add(word());
            while (peek() == ' ') {
                i++;
                must(words.size() < 4, i);
                words.add(word());
            }
            lit("\"");
            return new Term(kind, words, false, 0);
        }

        String word() {
            String word = "" + code();
            while (peek() >= 'a' && peek() <= 'z' || peek() >= '0' && peek() <= '9') {
                must(word.length() < 12, i);
                word += s.charAt(i++);
            }
            return word;
        }

        List<int[]> rules() {
            List<int[]> lines = new ArrayList<>();
            do {
                must(lines.size() < 20, i);
                int[] line = new int[7];
                line[0] = "01234*".indexOf(of("01234*"));
                lit(" ");
                line[1] = "01234*".indexOf(of("01234*"));
                int[] low = {0, 0, 1, 0, 0, 0, 0};
                int[] high = {0, 0, 365, 9, 99, 999, 99999};
                for (int k = 2; k < 7; k++) {
                    lit(" ");
                    line[k] = number(low[k], high[k]);
                }
                lit("\n");
                lines.add(line);
            } while (!ended());
            return lines;
        }

        List<Object[]> routes() {
            List<Object[]> lines = new ArrayList<>();
            do {
                must(lines.size() < 12, i);
                int from = number(0, 3);
                lit(" ");
                int to = number(0, 3);
                lit(" ");
                String days = "" + of("0123456");
                while (peek() >= '0' && peek() <= '9') {
                    must(peek() <= '6' && peek() > days.charAt(days.length() - 1), i);
                    days += s.charAt(i++);
                }
                lit(" ");
                int takes = number(1, 9);
                lit("\n");
                lines.add(new Object[] {from, to, days, takes});
            } while (!ended());
            return lines;
        }

        List<Check> checks() {
            List<Check> lines = new ArrayList<>();
            do {
                must(lines.size() < 10, i);
                int tag = tag(1);
                lit(" ");
                String kind = pick("must", "once", "has", "most");
                int told = 0;
                if (kind.equals("has")) {
                    lit(" ");
                    told = code();
                } else if (kind.equals("most")) {
                    lit(" ");
                    told = number(1, 40);
                }
                lit("\n");
                lines.add(new Check(tag, kind, told));
            } while (!ended());
            return lines;
        }

        List<Keep> keeps() {
            List<Keep> lines = new ArrayList<>();
            do {
                must(lines.size() < 8, i);
                int tag = tag(10);
                lit(" ");
                int days = number(0, 50000);
                lit(" ");
                lines.add(new Keep(tag, days, row()));
                lit("\n");
            } while (!ended());
            return lines;
        }

        BatchText batch() {
            Object q = question(0);
            lit("\n");
            List<Step> steps = new ArrayList<>();
            do {
                must(steps.size() < 8, i);
                String kind = pick("del", "set", "add");
                lit(" ");
                if (kind.equals("del")) {
                    steps.add(new Step(kind, tag(1), 'x', null, null));
                    lit("\n");
                } else if (kind.equals("set")) {
                    int tag = tag(10);
                    lit(" ");
                    char code = code();
                    lit(" ");
                    steps.add(new Step(kind, tag, code, row(), null));
                    lit("\n");
                } else {
                    steps.add(new Step(kind, 0, 'x', null, field()));
                }
            } while (!ended());
            return new BatchText(q, steps);
        }

        String callNumber() {
            number(0, 999);
            if (peek() == '.') {
                i++;
                of("0123456789");
                for (int k = 1; k < 4 && peek() >= '0' && peek() <= '9'; k++) {
                    i++;
                }
            }
            if (peek() == ' ') {
                i++;
                of("ABCDEFGHIJKLMNOPQRSTUVWXYZ");
                for (int k = 1; k < 3 && peek() >= 'A' && peek() <= 'Z'; k++) {
                    i++;
                }
            }
            end();
            return s;
        }

        int[] message() {
            int[] m = new int[4];
            m[0] = of("LBRHUP");
            for (int k = 1; k <= (m[0] == 'R' ? 1 : m[0] == 'H' ? 3 : 2); k++) {
                lit(" ");
                m[k] = number(0, 99999);
            }
            lit(" #");
            of("0123456789");
            end();
            return m;
        }
    }

    /** What ACTS make. */
    private static final class World {
        boolean acted;
        int today = 0;
        final List<Rec> recs = new ArrayList<>();
        int versions = 0;
        int links = 0;
        int names = 0;
        final List<Head> heads = new ArrayList<>();
        final List<Reader> readers = new ArrayList<>();
        final List<Copy> copies = new ArrayList<>();
        final List<Loan> loans = new ArrayList<>();
        final List<Wait> queue = new ArrayList<>();
        final List<Booking> bookings = new ArrayList<>();
        final Set<Integer> closed = new TreeSet<>();
        List<int[]> rules = new ArrayList<>();
        List<Object[]> routes = new ArrayList<>();
        List<Check> checks = new ArrayList<>();
        List<Keep> keeps = new ArrayList<>();
        boolean strict = false;
        final List<Serial> serials = new ArrayList<>();
        final List<int[]> funds = new ArrayList<>();
        final List<Order> orders = new ArrayList<>();
        final List<char[][]> packs = new ArrayList<>();
        final boolean[] mute = new boolean[6];
        String kept = null;
        int keptAnswer;
        List<Integer> found = new ArrayList<>();
        List<Integer> results = new ArrayList<>();

        Rec rec(int r) {
            return r >= 1 && r <= recs.size() ? recs.get(r - 1) : null;
        }

        Rec there(int r) {
            none(rec(r) == null || rec(r).gone >= 0);
            return rec(r);
        }

        static <T> T get(List<T> list, int number) {
            none(number < 1 || number > list.size());
            return list.get(number - 1);
        }

        List<Fld> print(Rec r, int day) {
            Ver v = null;
            for (Ver x : r.versions) {
                v = x.day <= day ? x : v;
            }
            List<Fld> fields = new ArrayList<>();
            for (int f = 0; f < v.fields.size(); f++) {
                Fld fld = v.fields.get(f).twin();
                int head = linked(v, f, day);
                if (head > 0) {
                    int a = fld.subs.indexOf(fld.firstA());
                    fld.subs.set(a, new Sub('a', heads.get(head - 1).name(day)));
                }
                fields.add(fld);
            }
            return fields;
        }

        int linked(Ver v, int field, int day) {
            int head = 0;
            for (Link link : v.links) {
                head = link.field == field && link.day <= day ? link.heading : head;
            }
            return head;
        }

        static List<String> words(String row) {
            List<String> words = new ArrayList<>();
            for (String word : row.toLowerCase().split("[^a-z0-9]+")) {
                if (!word.isEmpty()) {
                    words.add(word);
                }
            }
            return words;
        }

        boolean meets(Rec r, Object q) {
            if (q instanceof Join j) {
                boolean left = meets(r, j.left);
                boolean right = meets(r, j.right);
                return j.op.equals("and") ? left && right
                        : j.op.equals("or") ? left || right : left && !right;
            }
            Term t = (Term) q;
            List<Fld> fields = print(r, today);
            for (int f = 0; f < fields.size(); f++) {
                int tag = fields.get(f).tag;
                if (t.kind.equals("h")) {
                    for (int h = linked(r.latest(), f, today); h > 0; h = heads.get(h - 1).above) {
                        if (h == t.head) {
                            return true;
                        }
                    }
                } else if (t.kind.equals("n") || t.kind.equals("t") && tag == 245
                        || t.kind.equals("a") && (tag == 100 || tag == 700)
                        || t.kind.equals("s") && tag == 650) {
                    for (String row : fields.get(f).rows()) {
                        if (rowMeets(words(row), t)) {
                            return true;
                        }
                    }
                }
            }
            return false;
        }

        boolean rowMeets(List<String> words, Term t) {
            if (t.star) {
                return words.stream().anyMatch(x -> x.startsWith(t.words.get(0)));
            }
            for (int i = 0; i + t.words.size() <= words.size(); i++) {
                if (words.subList(i, i + t.words.size()).equals(t.words)) {
                    return true;
                }
            }
            return false;
        }

        String title(Rec r) {
            for (Fld f : print(r, today)) {
                if (f.tag == 245 && f.firstA() != null) {
                    int skip = f.indicators.charAt(1) == ' ' ? 0 : f.indicators.charAt(1) - '0';
                    String row = f.firstA().row;
                    return row.substring(Math.min(skip, row.length()));
                }
            }
            return null;
        }

        static List<String> elements(String title) {
            List<String> list = new ArrayList<>();
            java.util.regex.Matcher m =
                    java.util.regex.Pattern.compile("[0-9]+|[a-z]+").matcher(title.toLowerCase());
            while (m.find()) {
                list.add(m.group());
            }
            return list;
        }

        static int compareTitles(String a, String b) {
            if (a == null || b == null) {
                return a == b ? 0 : a == null ? 1 : -1;
            }
            List<String> x = elements(a);
            List<String> y = elements(b);
            for (int i = 0; i < Math.min(x.size(), y.size()); i++) {
                boolean dx = Character.isDigit(x.get(i).charAt(0));
                boolean dy = Character.isDigit(y.get(i).charAt(0));
                int order = dx != dy ? dx ? -1 : 1
                        : dx ? new java.math.BigInteger(x.get(i))
                                .compareTo(new java.math.BigInteger(y.get(i)))
                        : x.get(i).compareTo(y.get(i));
                if (order != 0) {
                    return order;
                }
            }
            return x.size() - y.size();
        }

        void search(Object q) {
            List<Integer> all = new ArrayList<>();
            for (int r = 1; r <= recs.size(); r++) {
                if (rec(r).gone < 0 && meets(rec(r), q)) {
                    all.add(r);
                }
            }
            all.sort((a, b) -> {
                int order = compareTitles(title(rec(a)), title(rec(b)));
                return order != 0 ? order : a - b;
            });
            found = all;
        }

        boolean breaks(List<Fld> fields, Check c) {
            List<Fld> with = fields.stream().filter(f -> f.tag == c.tag).toList();
            switch (c.kind) {
                case "must": return with.isEmpty();
                case "once": return with.size() > 1;
                case "has": return !with.stream()
                        .allMatch(f -> f.subs.stream().anyMatch(s -> s.code == c.told));
                default: return with.stream()
                        .anyMatch(f -> f.rows().stream().anyMatch(r -> r.length() > c.told));
            }
        }

        boolean breaksAny(List<Fld> fields) {
            return checks.stream().anyMatch(c -> breaks(fields, c));
        }

        void addVersion(Rec r, List<Fld> fields) {
            Ver v = new Ver();
            v.day = today;
            v.fields = fields;
            r.versions.add(v);
            r.changed = today;
            versions++;
        }

        List<Wait> queueOf(int record) {
            List<Wait> list = new ArrayList<>(queue.stream().filter(x -> x.record == record).toList());
            list.sort(Comparator.comparingInt(x -> x.rank));
            return list;
        }

        List<Copy> copiesOf(int record) {
            return copies.stream().filter(c -> c.record == record).toList();
        }

        void settle(Copy c, int place) {
            c.at = place;
            c.loan = 0;
            c.sent = -1;
            List<Wait> list = queueOf(c.record);
            if (!list.isEmpty()) {
                queue.remove(list.get(0));
                forReader(c, list.get(0).reader);
            } else if (c.home == place) {
                c.state = 0;
                c.who = 0;
                c.day = -1;
            } else {
                send(c, c.home, 0);
            }
        }

        void forReader(Copy c, int reader) {
            int pickup = readers.get(reader - 1).pickup;
            if (pickup == c.at) {
                c.state = 2;
                c.who = reader;
                c.day = today + 7;
                c.sent = -1;
            } else {
                send(c, pickup, reader);
            }
        }

        /** Day by day, all places that can be reached by then. */
        void send(Copy c, int to, int reader) {
            c.state = 4;
            c.who = reader;
            c.sent = to;
            c.day = today + 14;
            Map<Integer, Set<Integer>> there = new HashMap<>();
            there.computeIfAbsent(today, d -> new HashSet<>()).add(c.at);
            for (int day = today; day < today + 100; day++) {
                Set<Integer> places = there.computeIfAbsent(day, d -> new HashSet<>());
                if (places.contains(to)) {
                    c.day = day;
                    return;
                }
                for (Object[] line : routes) {
                    if (places.contains((Integer) line[0])
                            && ((String) line[2]).indexOf('0' + day % 7) >= 0) {
                        there.computeIfAbsent(day + (Integer) line[3], d -> new HashSet<>())
                                .add((Integer) line[1]);
                    }
                }
                there.computeIfAbsent(day + 1, d -> new HashSet<>()).addAll(places);
            }
        }

        int[] rule(Reader r, Copy c) {
            for (int[] line : rules) {
                if ((line[0] == 5 || line[0] == r.kind) && (line[1] == 5 || line[1] == c.type)) {
                    return line;
                }
            }
            throw new Refused(-12);
        }

        int open(int day) {
            int d = day;
            while (closed.contains(d)) {
                d++;
            }
            return d;
        }

        boolean over(Booking b) {
            return b.taken || b.to < today;
        }

        int dueDay(int reader, int copy, int[] rule) {
            int day = open(today + rule[2]);
            for (Booking b : bookings) {
                if (b.copy == copy && b.reader != reader && !over(b) && b.from > today) {
                    day = Math.min(day, b.from - 1);
                }
            }
            return day;
        }

        boolean disposable(int number) {
            Rec r = rec(number);
            if (r.gone >= 0 || r.frozen || serials.stream().anyMatch(s -> s.record == number)
                    || !queueOf(number).isEmpty()) {
                return false;
            }
            for (Copy c : copiesOf(number)) {
                if (c.state == 1 || c.state == 2 || c.state == 4
                        || bookings.stream().anyMatch(b -> b.copy == c.number && !over(b))) {
                    return false;
                }
            }
            for (Keep k : keeps) {
                if (print(r, today).stream().anyMatch(f -> f.tag == k.tag && f.firstA() != null
                        && f.firstA().row.equals(k.row))) {
                    return r.latest().day + k.days < today;
                }
            }
            return false;
        }

        int free(int[] fund) {
            return fund[0] - fund[1] - fund[2];
        }

        int loadOf(int store) {
            return (int) packs.stream().filter(p -> p[store] != null).count();
        }

        int leastLoaded(char[][] pack) {
            int best = -1;
            for (int s = 5; s >= 0; s--) {
                if (!mute[s] && pack[s] == null && (best < 0 || loadOf(s) <= loadOf(best))) {
                    best = s;
                }
            }
            return best;
        }

        String majority(char[][] pack) {
            Map<String, Integer> votes = new HashMap<>();
            int all = 0;
            for (int s = 0; s < 6; s++) {
                if (!mute[s] && pack[s] != null) {
                    votes.merge(new String(pack[s]), 1, Integer::sum);
                    all++;
                }
            }
            for (String bytes : votes.keySet()) {
                if (votes.get(bytes) * 2 > all) {
                    return bytes;
                }
            }
            throw new Refused(STATE);
        }

        int lend(int reader, int copy) {
            none(reader < 1 || reader > readers.size() || copy < 1 || copy > copies.size());
            Reader r = readers.get(reader - 1);
            Copy c = copies.get(copy - 1);
            refuse(c.state == 1 || c.state == 3 || c.state == 4
                    || c.state == 2 && c.who != reader, -11);
            for (Booking b : bookings) {
                refuse(b.copy == copy && b.reader != reader && !over(b) && b.from <= today
                        && b.to >= today, -17);
            }
            int[] rule = rule(r, c);
            refuse(copies.stream().filter(x -> x.state == 1 && x.who == reader).count() >= rule[4],
                    -13);
            refuse(r.owes >= 1000, -14);
            Loan loan = new Loan();
            loan.reader = reader;
            loan.copy = copy;
            loan.due = dueDay(reader, copy, rule);
            loan.cents = rule[5];
            loan.cap = rule[6];
            loans.add(loan);
            c.state = 1;
            c.who = reader;
            c.loan = loans.size();
            return loans.size();
        }

        int renew(int number) {
            Loan loan = get(loans, number);
            none(loan.ended);
            Reader r = readers.get(loan.reader - 1);
            Copy c = copies.get(loan.copy - 1);
            int[] rule = rule(r, c);
            refuse(!queueOf(c.record).isEmpty(), -15);
            refuse(loan.renewed >= rule[3], -16);
            refuse(r.owes >= 1000, -14);
            loan.due = Math.max(loan.due, dueDay(loan.reader, loan.copy, rule));
            loan.renewed++;
            loan.cents = rule[5];
            loan.cap = rule[6];
            return loan.due;
        }

        int bring(int copy, int place) {
            Copy c = get(copies, copy);
            refuse(place < 0 || place > 3, RANGE);
            refuse(c.state != 1, STATE);
            Loan loan = loans.get(c.loan - 1);
            int fine = 0;
            for (int day = loan.due + 1; day <= today; day++) {
                fine += closed.contains(day) ? 0 : loan.cents;
            }
            fine = Math.min(fine, loan.cap);
            readers.get(loan.reader - 1).owes += fine;
            loan.ended = true;
            settle(c, place);
            return fine;
        }

        int hold(int reader, int record, int rank) {
            none(reader < 1 || reader > readers.size());
            there(record);
            refuse(rank < 0 || rank > 9, RANGE);
            refuse(queueOf(record).stream().anyMatch(x -> x.reader == reader), STATE);
            refuse(copiesOf(record).stream().anyMatch(c -> c.who == reader
                    && (c.state == 1 || c.state == 2 || c.state == 4)), STATE);
            refuse(copiesOf(record).stream().allMatch(c -> c.state == 3), STATE);
            refuse(queue.size() >= 200, FULL);
            Wait me = new Wait(reader, record, rank);
            queue.add(me);
            for (Copy c : copiesOf(record)) {
                if (c.state == 0) {
                    settle(c, c.at);
                    return 0;
                }
            }
            return queueOf(record).indexOf(me) + 1;
        }

        int unhold(int reader, int record) {
            for (Wait x : queueOf(record)) {
                if (x.reader == reader) {
                    queue.remove(x);
                    return 1;
                }
            }
            for (Copy c : copiesOf(record)) {
                if (reader > 0 && c.who == reader && c.state == 2) {
                    settle(c, c.at);
                    return 1;
                }
                if (reader > 0 && c.who == reader && c.state == 4) {
                    c.who = 0;
                    return 1;
                }
            }
            throw new Refused(NONE);
        }

        int pay(int reader, int cents) {
            Reader r = get(readers, reader);
            refuse(cents < 1 || cents > 100000, RANGE);
            r.owes -= cents;
            return r.owes;
        }

        int exchange(String text) {
            int[] m = new Parse(text).message();
            if (text.equals(kept)) {
                acted = false;
                return keptAnswer;
            }
            kept = text;
            try {
                switch ((char) m[0]) {
                    case 'L': keptAnswer = lend(m[1], m[2]); break;
                    case 'B': keptAnswer = bring(m[1], m[2]); break;
                    case 'R': keptAnswer = renew(m[1]); break;
                    case 'H': keptAnswer = hold(m[1], m[2], m[3]); break;
                    case 'U': keptAnswer = unhold(m[1], m[2]); break;
                    default:
                        pay(m[1], m[2]);
                        keptAnswer = 1;
                        break;
                }
            } catch (Refused refused) {
                keptAnswer = refused.answer;
            }
            return keptAnswer;
        }

        int batch(String text) {
            BatchText b = new Parse(text).batch();
            search(b.question);
            results = new ArrayList<>();
            int changed = 0;
            for (int number : found) {
                Rec r = rec(number);
                List<Fld> fields = new ArrayList<>();
                r.latest().fields.forEach(f -> fields.add(f.twin()));
                b.steps.forEach(s -> step(fields, s));
                boolean same = plain(fields).equals(plain(r.latest().fields));
                if (fields.isEmpty() || fields.size() > 12
                        || fields.stream().anyMatch(f -> f.subs.size() > 5)
                        || strict && breaksAny(fields) || versions >= 400 && !same) {
                    results.add(2);
                } else if (same) {
                    results.add(0);
                } else {
                    addVersion(r, fields);
                    results.add(1);
                    changed++;
                }
            }
            return changed;
        }

        void step(List<Fld> fields, Step s) {
            if (s.kind.equals("del")) {
                fields.removeIf(f -> f.tag == s.tag);
            } else if (s.kind.equals("add")) {
                fields.add(s.field.twin());
            } else {
                for (Fld f : fields) {
                    if (f.tag == s.tag) {
                        int at = 0;
                        while (at < f.subs.size() && f.subs.get(at).code != s.code) {
                            at++;
                        }
                        if (at < f.subs.size()) {
                            f.subs.set(at, new Sub(s.code, s.row));
                        } else {
                            f.subs.add(new Sub(s.code, s.row));
                        }
                    }
                }
            }
        }

        int tick(int day) {
            refuse(day < 0 || day > 50000, RANGE);
            refuse(day <= today, STATE);
            today = day;
            List<Copy> come = new ArrayList<>(
                    copies.stream().filter(c -> c.state == 4 && c.day <= day).toList());
            come.sort(Comparator.<Copy>comparingInt(c -> c.day).thenComparingInt(c -> c.number));
            for (Copy c : come) {
                c.at = c.sent;
                if (c.who > 0) {
                    forReader(c, c.who);
                } else {
                    settle(c, c.at);
                }
            }
            List<Copy> late = copies.stream().filter(c -> c.state == 2 && c.day < day).toList();
            late.forEach(c -> settle(c, c.at));
            return come.size() + late.size();
        }

        int link(int record, int field, int heading) {
            Rec r = there(record);
            Ver v = r.latest();
            none(field < 0 || field >= v.fields.size() || heading < 0 || heading > heads.size());
            refuse(v.fields.get(field).firstA() == null || linked(v, field, today) == heading, STATE);
            refuse(links >= 300, FULL);
            v.links.add(new Link(field, heading, today));
            links++;
            r.changed = today;
            return 1;
        }

        int name(Head head, String text) {
            Parse p = new Parse(text);
            String name = p.row();
            p.end();
            refuse(heads.stream().anyMatch(h -> h.name(today).equals(name)), STATE);
            refuse(names >= 240 || head == null && heads.size() >= 80, FULL);
            Head h = head;
            if (h == null) {
                h = new Head();
                heads.add(h);
            }
            h.names.add(name);
            h.days.add(today);
            names++;
            return head == null ? heads.size() : 1;
        }

        int broader(int heading, int other) {
            Head h = get(heads, heading);
            none(other < 0 || other > heads.size());
            for (int up = other; up > 0; up = heads.get(up - 1).above) {
                refuse(up == heading, STATE);
            }
            h.above = other;
            return 1;
        }

        int serial(int record, String text) {
            there(record);
            Parse p = new Parse(text);
            p.lit("every ");
            int step = p.number(1, 366);
            Set<Integer> skip = new TreeSet<>();
            Serial s = new Serial();
            String part = p.ended() ? "" : p.pick(" skip ", " volume ");
            if (part.equals(" skip ")) {
                int last = p.number(0, 11);
                skip.add(last);
                while (p.peek() == ',') {
                    p.i++;
                    last = p.number(last + 1, 11);
                    skip.add(last);
                }
                part = p.ended() ? "" : p.pick(" volume ");
            }
            if (part.equals(" volume ")) {
                s.volume = p.number(1, 99);
            }
            p.end();
            refuse(serials.size() >= 20, FULL);
            s.record = record;
            for (int day = today; day <= 50000 && s.days.size() < 300; day += step) {
                if (!skip.contains(day / 30 % 12)) {
                    s.days.add(day);
                }
            }
            serials.add(s);
            return serials.size();
        }

        int book(int reader, int copy, int from, int to) {
            none(reader < 1 || reader > readers.size());
            Copy c = get(copies, copy);
            refuse(from < today || to < from || (long) to - from > 30 || to > 50000, RANGE);
            refuse(c.state == 3 || c.state == 1 && loans.get(c.loan - 1).due >= from, STATE);
            for (Booking b : bookings) {
                refuse(b.copy == copy && !over(b) && !(b.to < from || b.from > to), STATE);
            }
            refuse(bookings.size() >= 100, FULL);
            Booking b = new Booking();
            b.reader = reader;
            b.copy = copy;
            b.from = from;
            b.to = to;
            bookings.add(b);
            return bookings.size();
        }

        int pack(String text) {
            refuse(text.isEmpty() || text.length() > 200, RANGE);
            int heard = 0;
            for (boolean m : mute) {
                heard += m ? 0 : 1;
            }
            refuse(heard < 3, STATE);
            refuse(packs.size() >= 30, FULL);
            char[][] pack = new char[6][];
            for (int k = 0; k < 3; k++) {
                pack[leastLoaded(pack)] = text.toCharArray();
            }
            packs.add(pack);
            return packs.size();
        }

        int mend(int number) {
            char[][] pack = get(packs, number);
            String bytes = majority(pack);
            int mended = 0;
            for (int s = 0; s < 6; s++) {
                if (!mute[s] && pack[s] != null && !new String(pack[s]).equals(bytes)) {
                    pack[s] = bytes.toCharArray();
                    mended++;
                }
            }
            while (Arrays.stream(pack).filter(x -> x != null).count() < 3 && leastLoaded(pack) >= 0) {
                pack[leastLoaded(pack)] = bytes.toCharArray();
                mended++;
            }
            return mended;
        }

        int act(String name, int[] a, String text) {
            switch (name) {
                case "tick": return tick(a[0]);
                case "record": {
                    List<Fld> fields = new Parse(text).record();
                    refuse(strict && breaksAny(fields), -12);
                    refuse(recs.size() >= 150 || versions >= 400, FULL);
                    recs.add(new Rec());
                    addVersion(recs.get(recs.size() - 1), fields);
                    return recs.size();
                }
                case "edit": {
                    Rec r = there(a[0]);
                    List<Fld> fields = new Parse(text).record();
                    refuse(strict && breaksAny(fields), -12);
                    refuse(versions >= 400, FULL);
                    addVersion(r, fields);
                    return r.versions.size();
                }
                case "drop": {
                    Rec r = there(a[0]);
                    refuse(copiesOf(a[0]).stream().anyMatch(c -> c.state != 3)
                            || serials.stream().anyMatch(s -> s.record == a[0])
                            || !queueOf(a[0]).isEmpty(), STATE);
                    r.gone = today;
                    r.changed = today;
                    return 1;
                }
                case "heading": return name(null, text);
                case "rename": return name(get(heads, a[0]), text);
                case "broader": return broader(a[0], a[1]);
                case "link": return link(a[0], a[1], a[2]);
                case "reader": {
                    refuse(a[0] < 0 || a[0] > 4, RANGE);
                    refuse(readers.size() >= 60, FULL);
                    Reader r = new Reader();
                    r.kind = a[0];
                    readers.add(r);
                    return readers.size();
                }
                case "copy": {
                    there(a[0]);
                    refuse(a[1] < 0 || a[1] > 4, RANGE);
                    refuse(copies.size() >= 200, FULL);
                    Copy c = new Copy();
                    c.record = a[0];
                    c.type = a[1];
                    copies.add(c);
                    c.number = copies.size();
                    settle(c, 0);
                    return c.number;
                }
                case "away": {
                    Copy c = get(copies, a[0]);
                    refuse(c.state != 0, STATE);
                    c.state = 3;
                    return 1;
                }
                case "rules":
                    rules = new Parse(text).rules();
                    return rules.size();
                case "closed":
                    refuse(a[0] < 0 || a[0] > 50000, RANGE);
                    refuse(closed.contains(a[0]), STATE);
                    refuse(closed.size() >= 60, FULL);
                    closed.add(a[0]);
                    return closed.size();
                case "lend": return lend(a[0], a[1]);
                case "renew": return renew(a[0]);
                case "back": return bring(a[0], get(copies, a[0]).at);
                case "bring": return bring(a[0], a[1]);
                case "hold": return hold(a[0], a[1], a[2]);
                case "unhold": return unhold(a[0], a[1]);
                case "pay":
                    try {
                        return pay(a[0], a[1]);
                    } catch (Refused refused) {
                        throw new Refused(refused.answer == NONE ? -1000000 : -1000001);
                    }
                case "serial": return serial(a[0], text);
                case "came": {
                    Serial s = get(serials, a[0]);
                    none(a[1] < 0 || a[1] >= s.days.size());
                    refuse(s.came.containsKey(a[1]), STATE);
                    s.came.put(a[1], today);
                    return 1;
                }
                case "pack": return pack(text);
                case "mend": return mend(a[0]);
                case "batch": return batch(text);
                case "exchange": return exchange(text);
                default: return actMore(name, a, text);
            }
        }

        int actMore(String name, int[] a, String text) {
            switch (name) {
                case "fund":
                    refuse(a[0] < 0 || a[0] > 1000000, RANGE);
                    refuse(funds.size() >= 20, FULL);
                    funds.add(new int[] {a[0], 0, 0});
                    return funds.size();
                case "order": {
                    int[] f = get(funds, a[0]);
                    refuse(a[1] < 1 || a[1] > 1000000, RANGE);
                    refuse(a[1] > free(f), -11);
                    refuse(orders.size() >= 150, FULL);
                    Order o = new Order();
                    o.fund = a[0];
                    o.cents = a[1];
                    orders.add(o);
                    f[1] += a[1];
                    return orders.size();
                }
                case "invoice": {
                    Order o = get(orders, a[0]);
                    refuse(a[1] < 0 || a[1] > 1000000, RANGE);
                    refuse(o.closed, STATE);
                    int[] f = funds.get(o.fund - 1);
                    refuse(a[1] - o.cents > free(f), -11);
                    f[1] -= o.cents;
                    f[2] += a[1];
                    o.closed = true;
                    return free(f);
                }
                case "cancel": {
                    Order o = get(orders, a[0]);
                    refuse(o.closed, STATE);
                    funds.get(o.fund - 1)[1] -= o.cents;
                    o.closed = true;
                    return free(funds.get(o.fund - 1));
                }
                case "transfer": {
                    int[] f = get(funds, a[0]);
                    int[] g = get(funds, a[1]);
                    refuse(a[2] < 1 || a[2] > 1000000, RANGE);
                    refuse(a[0] == a[1], STATE);
                    refuse(a[2] > free(f), -11);
                    f[0] -= a[2];
                    g[0] += a[2];
                    return 1;
                }
                case "answers":
                    none(a[0] < 0 || a[0] > 5);
                    refuse(mute[a[0]] == (a[1] == 0), STATE);
                    mute[a[0]] = a[1] == 0;
                    return 1;
                case "alter": {
                    char[][] p = get(packs, a[0]);
                    none(a[1] < 0 || a[1] > 5 || p[a[1]] == null || a[2] < 0
                            || a[2] >= p[a[1]].length);
                    int before = p[a[1]][a[2]];
                    p[a[1]][a[2]] = (char) (a[3] & 255);
                    return before;
                }
                case "lose": {
                    char[][] p = get(packs, a[0]);
                    none(a[1] < 0 || a[1] > 5 || p[a[1]] == null);
                    p[a[1]] = null;
                    return 1;
                }
                case "home": {
                    Copy c = get(copies, a[0]);
                    refuse(a[1] < 0 || a[1] > 3, RANGE);
                    refuse(c.state == 3, STATE);
                    c.home = a[1];
                    if (c.state == 0) {
                        settle(c, c.at);
                    }
                    return 1;
                }
                case "pickup": {
                    Reader r = get(readers, a[0]);
                    refuse(a[1] < 0 || a[1] > 3, RANGE);
                    r.pickup = a[1];
                    return 1;
                }
                case "routes":
                    routes = new Parse(text).routes();
                    return routes.size();
                case "book": return book(a[0], a[1], a[2], a[3]);
                case "unbook": {
                    Booking b = get(bookings, a[0]);
                    none(over(b));
                    b.taken = true;
                    return 1;
                }
                case "mark": {
                    Copy c = get(copies, a[0]);
                    c.mark = new Parse(text).callNumber();
                    return 1;
                }
                case "checks":
                    checks = new Parse(text).checks();
                    return checks.size();
                case "strict":
                    refuse(strict == (a[0] == 1), STATE);
                    strict = a[0] == 1;
                    return 1;
                case "retention":
                    keeps = new Parse(text).keeps();
                    return keeps.size();
                case "freeze": {
                    Rec r = there(a[0]);
                    refuse(r.frozen == (a[1] == 1), STATE);
                    r.frozen = a[1] == 1;
                    return 1;
                }
                case "dispose": {
                    int number = 0;
                    for (int r = 1; r <= recs.size(); r++) {
                        if (disposable(r)) {
                            copiesOf(r).stream().filter(c -> c.state == 0).forEach(c -> c.state = 3);
                            rec(r).gone = today;
                            rec(r).changed = today;
                            number++;
                        }
                    }
                    return number;
                }
                default: throw new IllegalStateException(name);
            }
        }

        int ask(String name, int[] a) {
            switch (name) {
                case "state": {
                    Copy c = get(copies, a[0]);
                    return at(List.of(c.state, c.state == 3 ? 0 : c.who, c.loan,
                            c.state == 1 ? loans.get(c.loan - 1).due
                            : c.state == 2 || c.state == 4 ? c.day : -1), a[1]);
                }
                case "where": {
                    Copy c = get(copies, a[0]);
                    return at(List.of(c.at, c.home, c.state == 4 ? c.sent : -1), a[1]);
                }
                case "queue": return at(queueOf(a[0]).stream().map(Wait::reader).toList(), a[1]);
                case "owes":
                    return a[0] < 1 || a[0] > readers.size() ? -1000000
                            : readers.get(a[0] - 1).owes;
                case "issue": {
                    Serial s = get(serials, a[0]);
                    none(a[1] < 0 || a[1] >= s.days.size());
                    return at(List.of(s.days.get(a[1]),
                            s.volume == 0 ? a[1] + 1 : a[1] % s.volume + 1,
                            s.volume == 0 ? 0 : a[1] / s.volume + 1,
                            s.came.getOrDefault(a[1], -1)), a[2]);
                }
                case "claim": {
                    List<int[]> list = new ArrayList<>();
                    for (int s = 1; s <= serials.size(); s++) {
                        Serial serial = serials.get(s - 1);
                        for (int i = 0; i < serial.days.size(); i++) {
                            if (!serial.came.containsKey(i) && serial.days.get(i) + 10 < today) {
                                list.add(new int[] {serial.days.get(i), s * 1000 + i});
                            }
                        }
                    }
                    list.sort(Comparator.<int[]>comparingInt(x -> x[0]).thenComparingInt(x -> x[1]));
                    return at(list.stream().map(x -> x[1]).toList(), a[0]);
                }
                case "money": {
                    int[] f = get(funds, a[0]);
                    return at(List.of(f[0], f[1], f[2], free(f)), a[1]);
                }
                case "octet": return at(majority(get(packs, a[0])), a[1]);
                case "load": return a[0] < 0 || a[0] > 5 ? NONE : loadOf(a[0]);
                case "shelf": {
                    List<Copy> in = new ArrayList<>(
                            copies.stream().filter(c -> c.state == 0 && c.at == a[0]).toList());
                    in.sort(Comparator.comparing(World::markKey).thenComparingInt(c -> c.number));
                    return at(in.stream().map(c -> c.number).toList(), a[1]);
                }
                case "broke": {
                    Rec r = there(a[0]);
                    List<Integer> list = new ArrayList<>();
                    for (int i = 0; i < checks.size(); i++) {
                        if (breaks(r.latest().fields, checks.get(i))) {
                            list.add(i);
                        }
                    }
                    return at(list, a[1]);
                }
                case "due": {
                    List<Integer> list = new ArrayList<>();
                    for (int r = 1; r <= recs.size(); r++) {
                        if (disposable(r)) {
                            list.add(r);
                        }
                    }
                    return at(list, a[0]);
                }
                default: throw new IllegalStateException(name);
            }
        }

        /** A string whose natural order is that of the CALL NUMBERS; no mark comes last. */
        static String markKey(Copy c) {
            if (c.mark == null) {
                return "~";
            }
            String[] halves = c.mark.split(" ");
            String[] number = halves[0].split("\\.");
            return String.format("%03d", Integer.parseInt(number[0])) + "."
                    + (number.length > 1 ? number[1] : "") + " "
                    + (halves.length > 1 ? halves[1] : "");
        }
    }
}
