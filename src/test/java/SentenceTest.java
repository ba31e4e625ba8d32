import java.io.IOException;
import java.nio.file.Files;
import java.nio.file.Path;
import java.util.ArrayList;
import java.util.List;
import java.util.Set;
import java.util.TreeSet;

/**
 * Runs the tests under src/test/sentences: each quotes a sentence of the document, or a part of one,
 * tells whose promise it is, and would fail if it did not hold. README.md tells their form.
 *
 * <p>Every test has a house of its own, of which it asks no more than the document's 512 calls.
 * Whatever a test is about, a call that is refused must leave the house as it was, and all ACTS
 * must be as they were when the power went behind a SYNC. In the end every word of the promises
 * and of their terms must have been quoted by a test.
 */
public final class SentenceTest {
    private static final Path SENTENCES = Path.of("src", "test", "sentences");
    private static final String QUOTE = "== ";
    /** These change nothing, and may answer a number below 0 that is no refusal. */
    private static final Set<String> ASK = Set.of("hit", "value", "printed", "state", "queue",
            "owes", "issue", "claim", "money", "octet", "load", "count", "broken", "where", "shelf",
            "broke", "result", "due", "tally");
    private static final Set<String> PROMISES = new TreeSet<>();
    private static int tests = 0;
    private static int answers = 0;
    private static int refusals = 0;
    private static int failed = 0;

    private final String title;
    private final List<Script.Row> rows = new ArrayList<>();
    private final Caller house = new Caller();
    private boolean fails;

    private SentenceTest(String title) {
        this.title = title;
    }

    public static void main(String[] args) throws IOException {
        Document document = new Document();
        Set<Path> files = new TreeSet<>();
        try (var list = Files.newDirectoryStream(SENTENCES, "*.txt")) {
            list.forEach(files::add);
        }
        for (Path file : files) {
            for (SentenceTest test : read(file, document)) {
                test.run();
            }
        }
        for (String left : document.unquoted()) {
            failed++;
            System.out.println("no test for what " + left);
        }
        for (int promise = 1; promise <= 75; promise++) {
            if (!PROMISES.contains(String.valueOf(promise))) {
                failed++;
                System.out.println("no test for promise " + promise);
            }
        }
        System.out.println(tests + " tests of sentences, " + answers + " answers, " + refusals
                + " refusals behind which all was as before; " + failed + " failed");
        if (failed > 0) {
            System.exit(1);
        }
    }

    private static List<SentenceTest> read(Path file, Document document) throws IOException {
        List<SentenceTest> tests = new ArrayList<>();
        List<String> lines = Files.readAllLines(file);
        for (int i = 0; i < lines.size(); i++) {
            String line = lines.get(i);
            if (line.startsWith(QUOTE)) {
                tests.add(new SentenceTest(file.getFileName() + ":" + (i + 1) + " "
                        + line.substring(QUOTE.length())));
                checkQuote(line.substring(QUOTE.length()), i + 1, document);
            } else if (tests.isEmpty() && !Script.rows(line, i + 1).isEmpty()) {
                throw new IllegalArgumentException(file + " begins without a sentence");
            } else if (!tests.isEmpty()) {
                tests.get(tests.size() - 1).rows.addAll(Script.rows(line, i + 1));
            }
        }
        return tests;
    }

    /** A quote is told as "5: ..", of promise 5 itself, or as "5 Terms: ..", of what it needs. */
    private static void checkQuote(String told, int line, Document document) {
        int colon = told.indexOf(": ");
        String[] head = told.substring(0, Math.max(0, colon)).split(" ", 2);
        String section = head.length == 1 ? "Promise " + head[0] : head[1];
        PROMISES.add(head[0]);
        if (colon < 0 || !document.quote(section, told.substring(colon + 2))) {
            failed++;
            System.out.println("line " + line + ": no such sentence in " + section + ": " + told);
        }
    }

    private void run() {
        tests++;
        if (rows.isEmpty()) {
            fail("it has no call");
        }
        for (Script.Row row : rows) {
            check(row);
        }
        if (house.calls().size() > Caller.MOST_CALLS) {
            fail("it takes " + house.calls().size() + " calls");
        }
        checkPower();
        failed += fails ? 1 : 0;
    }

    private void fail(String why) {
        fails = true;
        System.out.println(title + "\n    " + why);
    }

    private void check(Script.Row row) {
        String told;
        try {
            told = Script.answer(row, house);
        } catch (RuntimeException thrown) {
            told = thrown.toString();
        }
        answers++;
        if (!told.equals(row.due())) {
            fail("line " + row.line() + ": " + row.text() + "   but it answered "
                    + told.replace("\n", "\\n"));
        } else if (isRefusal(row)) {
            checkNothingHappened(row);
        }
    }

    private boolean isRefusal(Script.Row row) {
        if (ASK.contains(row.name()) || !Caller.METHODS.containsKey(row.name())) {
            return false;
        }
        int due = Integer.parseInt(row.due());
        switch (row.name()) {
            case "pay": return due <= -1000000 && !isPaid();
            case "exchange": return due <= -1000;
            default: return due < 0;
        }
    }

    /** What a reader OWES may be the very number that stands for a refusal. */
    private boolean isPaid() {
        List<Caller.Call> calls = house.calls();
        Object[] given = calls.get(calls.size() - 1).given();
        int reader = (int) given[0];
        int cents = (int) given[1];
        return reader >= 1 && reader <= new Caller(calls).call("count", 6)
                && cents >= 1 && cents <= 100000;
    }

    /** But for the tape, that a call that reads a TEXT empties. */
    private void checkNothingHappened(Script.Row row) {
        List<Caller.Call> with = house.calls();
        List<Caller.Call> without = new ArrayList<>(with);
        if (without.remove(without.size() - 1).readsText()) {
            without.add(new Caller.Call("end", 0));
        }
        refusals += Digest.canAsk(with, without) ? 1 : 0;
        String difference = Digest.difference(with, without, true);
        if (!difference.isEmpty()) {
            fail("line " + row.line() + ": " + row.text() + " is refused, but " + difference);
        }
    }

    private void checkPower() {
        if (new Caller(house.calls()).call("tally", 0) == 1) {
            return;
        }
        List<Caller.Call> before = new ArrayList<>(house.calls());
        before.add(new Caller.Call("sync"));
        List<Caller.Call> behind = new ArrayList<>(before);
        behind.add(new Caller.Call("power", 1000));
        String difference = Digest.difference(behind, before, false);
        if (!difference.isEmpty()) {
            fail("when the power went behind a SYNC, " + difference);
        }
    }
}
