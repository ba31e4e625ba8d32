import java.util.ArrayList;
import java.util.List;

/** What houses that were called alike answer to many questions: it tells two houses apart. */
final class Digest {
    /** With fewer calls left the questions would take too many houses. */
    private static final int LEAST_CHUNK = 12;

    private Digest() {
    }

    /** Whether houses with these calls have enough of their 512 left to be asked. */
    static boolean canAsk(List<Caller.Call> one, List<Caller.Call> other) {
        return Caller.MOST_CALLS - Math.max(one.size(), other.size()) >= LEAST_CHUNK;
    }

    /**
     * The first question that two houses answer otherwise, told with both answers; empty if there
     * is none. No house is asked so much that it has more calls than the document promises.
     */
    static String difference(List<Caller.Call> one, List<Caller.Call> other, boolean desk) {
        if (!canAsk(one, other)) {
            return "";
        }
        int chunk = Caller.MOST_CALLS - Math.max(one.size(), other.size());
        List<Caller.Call> all = questions(new Caller(one), desk);
        for (int from = 0; from < all.size(); from += chunk) {
            Caller first = new Caller(one);
            Caller second = new Caller(other);
            for (Caller.Call question : all.subList(from, Math.min(all.size(), from + chunk))) {
                int told = first.answer(question);
                int toldElse = second.answer(question);
                if (told != toldElse) {
                    return question.name() + List.of(question.given()) + " answers " + told
                            + ", but " + toldElse + " without it";
                }
            }
        }
        return "";
    }

    private static List<Caller.Call> questions(Caller house, boolean desk) {
        List<Caller.Call> all = new ArrayList<>();
        ask(all, "count", 12);
        ask(all, "tally", 8);
        ask(all, "broken", 5);
        ask(all, "load", 6);
        if (desk) {
            ask(all, "hit", 4);
            ask(all, "result", 4);
            ask(all, "printed", 24);
            all.add(new Caller.Call("value", 245, 0, -1));
            all.add(new Caller.Call("value", 650, 0, 0));
        }
        askLending(all, house);
        askBuying(all);
        askByActs(all, house, desk);
        return all;
    }

    private static void ask(List<Caller.Call> all, String name, int most) {
        for (int i = 0; i < most; i++) {
            all.add(new Caller.Call(name, i));
        }
    }

    private static void askPairs(List<Caller.Call> all, String name, int from, int to, int most) {
        for (int i = from; i <= to; i++) {
            for (int k = 0; k < most; k++) {
                all.add(new Caller.Call(name, i, k));
            }
        }
    }

    private static void askLending(List<Caller.Call> all, Caller house) {
        int records = Math.min(8, house.call("count", 3));
        int readers = Math.min(8, house.call("count", 6));
        int copies = Math.min(8, house.call("count", 7));
        askPairs(all, "state", 1, copies, 4);
        askPairs(all, "where", 1, copies, 3);
        askPairs(all, "queue", 1, records, 3);
        askPairs(all, "broke", 1, records, 2);
        askPairs(all, "shelf", 0, 3, 2);
        ask(all, "owes", readers + 1);
    }

    private static void askBuying(List<Caller.Call> all) {
        ask(all, "claim", 2);
        ask(all, "due", 3);
        askPairs(all, "money", 1, 2, 4);
        askPairs(all, "octet", 1, 2, 2);
        for (int i = 0; i < 3; i++) {
            all.add(new Caller.Call("issue", 1, i, 0));
            all.add(new Caller.Call("issue", 1, i, 3));
        }
    }

    /** What shows only by what is done next; the tape, prints and tokens among it. */
    private static void askByActs(List<Caller.Call> all, Caller house, boolean desk) {
        int today = house.call("count", 2);
        if (desk) {
            all.add(new Caller.Call("feed", 0x20616263, 0, 0, 0, 0));
            all.add(new Caller.Call("pack"));
            all.add(new Caller.Call("octet", house.call("count", 11) + 1, 0));
            all.add(new Caller.Call("next", 1));
            all.add(new Caller.Call("next", 2));
            all.add(new Caller.Call("harvest", 0, 50000));
            all.add(new Caller.Call("next", 1));
        }
        for (int record = 1; record <= Math.min(3, house.call("count", 3)); record++) {
            all.add(new Caller.Call("print", record, 0, Math.max(0, today - 1)));
            all.add(new Caller.Call("print", record, 1, today));
            all.add(new Caller.Call("freeze", record, true));
        }
        all.add(new Caller.Call("lend", 1, 1));
        all.add(new Caller.Call("renew", 1));
        all.add(new Caller.Call("back", 1));
        all.add(new Caller.Call("closed", 31));
        all.add(new Caller.Call("closed", 32));
        all.add(new Caller.Call("book", 1, 1, today, Math.min(50000, today + 9)));
        all.add(new Caller.Call("unbook", 1));
        all.add(new Caller.Call("fund", 0));
        all.add(new Caller.Call("order", 1, 1));
        all.add(new Caller.Call("cancel", 1));
        all.add(new Caller.Call("tick", Math.min(50000, today + 14)));
        all.add(new Caller.Call("state", 1, 0));
        all.add(new Caller.Call("sync"));
        all.add(new Caller.Call("power", 0));
        all.add(new Caller.Call("count", 0));
        all.add(new Caller.Call("count", 1));
    }
}
