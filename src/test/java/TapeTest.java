/** Promises 1 to 4: a new object, feed, end, tick. */
public final class TapeTest {
    public static void main(String[] args) {
        newHouse();
        tape();
        ticks();
        House.close();
    }

    private static void newHouse() {
        House h = new House("new");
        for (int what = 0; what <= 11; what++) {
            h.due("count(" + what + ")", h.x.count(what), 0);
        }
        h.due("count(12)", h.x.count(12), -1);
        h.due("count(-1)", h.x.count(-1), -1);
        for (int what = 0; what <= 7; what++) {
            h.due("tally(" + what + ")", h.x.tally(what), 0);
        }
        h.due("printed(0)", h.x.printed(0), -1);
        h.due("hit(0)", h.x.hit(0), -1);
        h.due("power(0)", h.x.power(0), 0);
    }

    private static void tape() {
        House h = new House("tape");
        h.due("end(0)", h.x.end(0), 0);
        h.due("end(1)", h.x.end(1), -1);
        h.due("end(-1)", h.x.end(-1), -1);
        h.due("feed", h.x.feed(0x4c616b65, 0x73000000, 0, 0, 0), 20);
        h.due("end(21)", h.x.end(21), -1);
        h.due("end(5)", h.x.end(5), 5);
        h.due("end(6)", h.x.end(6), -1);
        h.due("reader, that reads no text", h.x.reader(0), 1);
        h.due("end(5) again", h.x.end(5), 5);
        h.due("heading", h.x.heading(), 1);
        h.due("end(1) of an empty tape", h.x.end(1), -1);
        for (int i = 1; i <= 100; i++) {
            h.due("feed " + i, h.x.feed(-1, -1, -1, -1, -1), 20 * i);
        }
        h.due("feed beyond 2000", h.x.feed(0, 0, 0, 0, 0), -4);
        h.due("end(2000)", h.x.end(2000), 2000);
        h.due("end(1981)", h.x.end(1981), 1981);
        h.due("feed beyond 2000", h.x.feed(0, 0, 0, 0, 0), -4);
        h.due("end(1980)", h.x.end(1980), 1980);
        h.due("feed up to 2000", h.x.feed(0, 0, 0, 0, 0), 2000);
        h.due("rename of none empties the tape", h.x.rename(2), -1);
        h.due("end(1)", h.x.end(1), -1);
    }

    private static void ticks() {
        House h = new House("tick");
        h.due("tick(0)", h.x.tick(0), -3);
        h.due("tick(-1)", h.x.tick(-1), -2);
        h.due("tick(50001)", h.x.tick(50001), -2);
        h.due("tick(1)", h.x.tick(1), 0);
        h.due("count(2)", h.x.count(2), 1);
        h.due("tick(1)", h.x.tick(1), -3);
        h.due("tick(50000)", h.x.tick(50000), 0);
        h.due("tick(50000)", h.x.tick(50000), -3);
        h.due("count(0)", h.x.count(0), 2);
    }
}
