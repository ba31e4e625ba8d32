public final class Example {
    public static void main(String[] args) {
        LibraryHouse house = new LibraryHouse();
        put(house, "245 04$aThe lakes of the north\n650  0$aLakes\n");
        int lakes = house.record();
        put(house, "* * 28 2 5 20 1000\n");
        house.rules();
        int copy = house.copy(lakes, 0);
        int reader = house.reader(0);
        int loan = house.lend(reader, copy);
        System.out.println("loan " + loan + ", due on day " + house.state(copy, 3));

        house.tick(30);
        System.out.println("the fine is " + house.back(copy));
        System.out.println("lent without such a reader: " + house.lend(7, copy));

        put(house, "t=lake* and s=lakes");
        System.out.println(house.find() + " found, the first is record " + house.hit(0));
        put(house, "t=Lakes");
        System.out.println("a capital stands at place " + (-1000 - house.find()));

        System.out.println(house.sync() + " acts are laid down");
        house.pay(reader, 40);
        house.power(1000);
        System.out.println("the reader owes " + house.owes(reader) + " again");
    }

    /** Puts a text on the empty tape: twenty bytes a call, then it is cut to its length. */
    static void put(LibraryHouse house, String text) {
        for (int at = 0; at < text.length(); at += 20) {
            house.feed(four(text, at), four(text, at + 4), four(text, at + 8), four(text, at + 12),
                    four(text, at + 16));
        }
        house.end(text.length());
    }

    static int four(String text, int from) {
        int four = 0;
        for (int i = from; i < from + 4; i++) {
            four = four << 8 | (i < text.length() ? text.charAt(i) : 0);
        }
        return four;
    }
}
