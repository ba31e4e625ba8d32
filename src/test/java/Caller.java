import java.lang.reflect.InvocationTargetException;
import java.lang.reflect.Method;
import java.lang.reflect.Modifier;
import java.util.ArrayList;
import java.util.HashMap;
import java.util.List;
import java.util.Map;
import java.util.Set;

/** A house that is called by names, and that remembers its calls. */
final class Caller {
    /** What the document promises of an object ends with this call. */
    static final int MOST_CALLS = 512;
    static final Map<String, Method> METHODS = new HashMap<>();
    private static final Set<String> READ_A_TEXT = Set.of("record", "edit", "heading", "rename",
            "find", "rules", "serial", "pack", "routes", "mark", "checks", "batch", "retention",
            "exchange");

    static {
        for (Method method : LibraryHouse.class.getDeclaredMethods()) {
            if (Modifier.isPublic(method.getModifiers())) {
                METHODS.put(method.getName(), method);
            }
        }
    }

    /** One call, with what it was given. */
    record Call(String name, Object... given) {
        boolean readsText() {
            return READ_A_TEXT.contains(name);
        }
    }

    private final LibraryHouse house = new LibraryHouse();
    private final List<Call> calls = new ArrayList<>();
    private int taped;

    Caller() {
    }

    /** A new house with the same calls. */
    Caller(List<Call> calls) {
        for (Call call : calls) {
            answer(call);
        }
    }

    /** All calls so far. */
    List<Call> calls() {
        return List.copyOf(calls);
    }

    int call(String name, Object... given) {
        return answer(new Call(name, given));
    }

    int answer(Call call) {
        Method method = METHODS.get(call.name());
        if (method == null) {
            throw new IllegalArgumentException("no call " + call.name());
        }
        calls.add(call);
        try {
            int told = (int) method.invoke(house, call.given());
            followTape(call, told);
            return told;
        } catch (InvocationTargetException thrown) {
            throw new IllegalStateException(call.name() + " threw " + thrown.getCause(), thrown);
        } catch (IllegalAccessException thrown) {
            throw new IllegalStateException(thrown);
        }
    }

    private void followTape(Call call, int told) {
        boolean cut = call.name().equals("end") || call.name().equals("feed");
        boolean lost = call.name().equals("power") || call.name().equals("done");
        if (cut && told >= 0) {
            taped = told;
        } else if (call.readsText() || lost && told >= 0 && !call.given()[0].equals(true)) {
            taped = 0;
        }
    }

    /** Puts a text on the tape in place of what is there, by as few calls as that takes. */
    void tape(String text) {
        if (taped != 0) {
            call("end", 0);
        }
        for (int[] word : Texts.words(text)) {
            call("feed", word[0], word[1], word[2], word[3], word[4]);
        }
        if (taped != text.length()) {
            call("end", text.length());
        }
    }
}
