import java.util.ArrayList;
import java.util.List;

/** Texts as feed() wants them. */
final class Texts {
    private Texts() {
    }

    /** The numbers of the calls of feed() that a text takes, with zeros behind its end. */
    static List<int[]> words(String text) {
        List<int[]> calls = new ArrayList<>();
        for (int from = 0; from < text.length(); from += 20) {
            int[] word = new int[5];
            for (int i = 0; i < 20; i++) {
                int b = from + i < text.length() ? text.charAt(from + i) & 255 : 0;
                word[i / 4] = word[i / 4] << 8 | b;
            }
            calls.add(word);
        }
        return calls;
    }

    /** Puts a text on the tape behind what is there, and cuts the tape to its length. */
    static void feed(LibraryHouse house, String text) {
        for (int[] word : words(text)) {
            house.feed(word[0], word[1], word[2], word[3], word[4]);
        }
        house.end(text.length());
    }
}
