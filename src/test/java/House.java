/** A house under test: texts are fed as strings, and answers that are not as due are told. */
final class House {
    final LibraryHouse x = new LibraryHouse();
    private final String test;
    private static int wrong = 0;
    private static int right = 0;

    House(String test) {
        this.test = test;
    }

    /** Puts a text on the tape, in place of what was there. */
    House text(String text) {
        x.end(0);
        int[] word = new int[5];
        for (int from = 0; from < text.length(); from += 20) {
            java.util.Arrays.fill(word, 0);
            for (int i = 0; i < 20; i++) {
                int b = from + i < text.length() ? text.charAt(from + i) & 255 : 0;
                word[i / 4] = word[i / 4] << 8 | b;
            }
            x.feed(word[0], word[1], word[2], word[3], word[4]);
        }
        x.end(text.length());
        return this;
    }

    int record(String text) {
        return text(text).x.record();
    }

    int edit(int record, String text) {
        return text(text).x.edit(record);
    }

    int heading(String text) {
        return text(text).x.heading();
    }

    int find(String text) {
        return text(text).x.find();
    }

    int rules(String text) {
        return text(text).x.rules();
    }

    int routes(String text) {
        return text(text).x.routes();
    }

    int batch(String text) {
        return text(text).x.batch();
    }

    int exchange(String text) {
        return text(text).x.exchange();
    }

    /** All that was printed, as a string. */
    String page(int record, int form, int day) {
        int length = x.print(record, form, day);
        StringBuilder page = new StringBuilder();
        for (int i = 0; i < length; i++) {
            page.append((char) x.printed(i));
        }
        return page.toString();
    }

    /** All that was found, as numbers with blanks between. */
    String hits() {
        StringBuilder hits = new StringBuilder();
        for (int i = 0; x.hit(i) != LibraryHouse.NONE; i++) {
            hits.append(i == 0 ? "" : " ").append(x.hit(i));
        }
        return hits.toString();
    }

    /** The i-th value of a tag, as a string. */
    String value(int tag, int i) {
        StringBuilder value = new StringBuilder();
        for (int k = 0; x.value(tag, i, k) != LibraryHouse.NONE; k++) {
            value.append((char) x.value(tag, i, k));
        }
        return value.toString();
    }

    void due(String call, int got, int want) {
        due(call, String.valueOf(got), String.valueOf(want));
    }

    void due(String call, String got, String want) {
        if (got.equals(want)) {
            right++;
        } else {
            wrong++;
            System.out.println(test + ": " + call + " answered " + got + ", due is " + want);
        }
    }

    /** Says how it went, and ends the machine with 1 if an answer was not as due. */
    static void close() {
        System.out.println(right + " answers as due, " + wrong + " not");
        if (wrong != 0 || right == 0) {
            System.exit(1);
        }
    }
}
