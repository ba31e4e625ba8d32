import java.lang.reflect.InvocationTargetException;
import java.util.ArrayList;
import java.util.List;

/**
 * Texts with one byte changed, left out, or put in, and each of their beginnings: LibraryHouse must
 * answer what the Model does, the place of the first WRONG byte above all.
 */
public final class OneByteTest {
    private static final String BYTES = "0123456789abdehklmnostuvzALBRHUPZ $\n*\"()=.,#:@[`{/~\u007f"
            + "\u001f\u0080\u00b0\u00ff\u0000";
    /** Of each call that reads a text: its name, its argument or -1, and a text. */
    private static final Object[][] CORPUS = {
        {"record", -1, "001 ab\n009 ~ }\n010 00$aLa$b9\n999  9$zx y$0z\n"},
        {"record", -1, "245 12$ax$bx$cx$dx$ex\n"},
        {"record", -1, "001 " + "x".repeat(40) + "\n100  1$a" + "y".repeat(40) + "$b1\n"},
        {"record", -1, "001 a\n".repeat(12)},
        {"edit", 1, "650 0 $aLakes\n"},
        {"heading", -1, "Lakes, old"},
        {"heading", -1, "x".repeat(40)},
        {"rename", 1, "a \"b\""},
        {"find", -1, "t=lakes and a=old* or s=\"a b c d\" not h=80"},
        {"find", -1, "((n=l0 or h=1) and t=\"x\") not a=abcdefghijkl*"},
        {"find", -1, "((((((((t=a))))))))"},
        {"find", -1, "s=\"abcdefghijkl b\""},
        {"find", -1, "n=a or ".repeat(19) + "(h=1)"},
        {"rules", -1, "0 4 365 9 99 999 99999\n* * 1 0 0 0 0\n4 * 10 1 10 100 1000\n"},
        {"rules", -1, "* * 1 0 0 0 0\n".repeat(20)},
        {"serial", 1, "every 366 skip 0,2,10,11 volume 99"},
        {"serial", 1, "every 1 volume 1"},
        {"serial", 1, "every 30 skip 9"},
        {"pack", -1, "any\u0000\u00ffbytes"},
        {"routes", -1, "0 1 0123456 1\n3 0 6 9\n2 2 024 5\n"},
        {"routes", -1, "0 1 3 4\n".repeat(12)},
        {"mark", 1, "999.0123 ABC"},
        {"mark", 1, "0.9"},
        {"mark", 1, "10 Z"},
        {"checks", -1, "001 must\n245 once\n650 has a\n999 most 40\n010 most 1\n100 has 9\n"},
        {"checks", -1, "001 once\n".repeat(10)},
        {"batch", -1, "t=lakes or n=x*\ndel 001\nset 010 a x y\nadd 001 z\nadd 650  0$aB$bC\n"},
        {"batch", -1, "(n=a)\n" + "del 999\n".repeat(8)},
        {"retention", -1, "245 50000 Lakes\n010 0 a b\n999 7 x\n"},
        {"retention", -1, "650 1 x\n".repeat(8)},
        {"exchange", -1, "L 1 1 #0"},
        {"exchange", -1, "B 1 3 #9"},
        {"exchange", -1, "R 1 #1"},
        {"exchange", -1, "H 1 1 9 #2"},
        {"exchange", -1, "U 99999 0 #3"},
        {"exchange", -1, "P 1 10000 #4"},
    };
    private static final int CALLS_IN_A_HOUSE = 480;
    private static final int MOST_TOLD = 20;
    private static int asked = 0;
    private static int wrong = 0;

    private final LibraryHouse house = new LibraryHouse();
    private final Model model = new Model();
    private int calls = 0;
    private int due = 0;
    private Object told = 0;

    private OneByteTest() throws ReflectiveOperationException {
        ask("record", -1, "245 00$aLakes\n");
        ask("heading", -1, "Maps");
        ask("rules", -1, "* * 9 1 9 1 1\n");
        both("reader", 0);
        both("copy", 1, 0);
    }

    public static void main(String[] args) throws ReflectiveOperationException {
        OneByteTest test = new OneByteTest();
        for (Object[] row : CORPUS) {
            for (String text : changed((String) row[2])) {
                if (wrong > MOST_TOLD) {
                    break;
                }
                if (test.calls + text.length() / 20 + 3 > CALLS_IN_A_HOUSE) {
                    test = new OneByteTest();
                }
                test.ask((String) row[0], (int) row[1], text);
            }
        }
        System.out.println(asked + " texts, " + wrong + " of them not answered as due");
        if (wrong > 0) {
            System.exit(1);
        }
    }

    private static List<String> changed(String text) {
        List<String> all = new ArrayList<>(List.of(text));
        for (int i = 0; i <= text.length(); i++) {
            String ahead = text.substring(0, i);
            String behind = text.substring(Math.min(i + 1, text.length()));
            all.add(ahead);
            all.add(ahead + behind);
            for (char b : BYTES.toCharArray()) {
                all.add(ahead + b + text.substring(i));
                all.add(ahead + b + behind);
            }
        }
        return all;
    }

    private void ask(String name, int argument, String text) throws ReflectiveOperationException {
        for (int[] word : Texts.words(text)) {
            both("feed", word);
        }
        both("end", text.length());
        asked++;
        both(name, argument < 0 ? new int[0] : new int[] {argument});
        if (!told.equals(due)) {
            wrong++;
            System.out.println(name + " \"" + text.replace("\n", "\\n") + "\" answers " + told
                    + ", not " + due);
        }
    }

    private void both(String name, int... given) throws ReflectiveOperationException {
        calls++;
        due = model.call(name, given);
        Object[] boxed = new Object[given.length];
        for (int i = 0; i < given.length; i++) {
            boxed[i] = given[i];
        }
        try {
            told = Caller.METHODS.get(name).invoke(house, boxed);
        } catch (InvocationTargetException thrown) {
            told = thrown.getCause();
        }
    }
}
