/** The bounds that promises 1 to 6, 9 and 38 name: a new object, the tape, THE OUT, faults, abilities, counts. */
public final class CallBoundsTest {
    private static final int LEAST = Integer.MIN_VALUE;
    private static final int MOST = Integer.MAX_VALUE;

    public static void main(String[] args) {
        sizes();
        feeding();
        order();
        ending();
        outs();
        outOfReads();
        tapeIsEmptied();
        faults();
        abilities();
        counts();
        Check.finish("CallBoundsTest");
    }

    private static int nearest(int told, int least, int most) {
        return Math.max(least, Math.min(most, told));
    }

    private static void sizes() {
        Check.says("A terminal of so many rows (4 .. 24) and columns (16 .. 80, an odd number is one less), a line of SPEED (1 .. 16; what is less or more is the"
            + " nearest one); no descriptions, no type in use, TIME 0.");
        int[] rows = {LEAST, -4, -1, 0, 3, 4, 5, 23, 24, 25, 100, MOST};
        int[] columns = {LEAST, -16, 0, 1, 15, 16, 17, 18, 19, 78, 79, 80, 81, 82, MOST};
        int[] speeds = {LEAST, -1, 0, 1, 2, 15, 16, 17, 18, MOST};
        for (int r : rows) {
            int height = nearest(r, 4, 24);
            TerminalHouse house = new TerminalHouse(r, 20, 1);
            Check.due("the last row of " + r, house.width(height - 1), 0);
            Check.due("no more rows of " + r, house.width(height), -1);
            Check.due("BOTTOM of " + r, house.state(4), height - 1);
        }
        for (int c : columns) {
            int breadth = nearest(c, 16, 80) / 2 * 2;
            TerminalHouse house = new TerminalHouse(4, c, 1);
            Check.due("the last column of " + c, house.screen(3, breadth - 1), 32);
            Check.due("no more columns of " + c, house.screen(3, breadth), -1);
        }
        for (int s : speeds) {
            int speed = nearest(s, 1, 16);
            TerminalHouse house = new TerminalHouse(4, 16, s);
            Check.write(house, "x");
            house.ticks(speed);
            Check.due("under way with " + s, house.screen(0, 0), 32);
            house.ticks(1);
            Check.due("there with " + s, house.screen(0, 0), 'x');
        }
        TerminalHouse house = new TerminalHouse(4, 16, 1);
        int[] none = {0, 1, 2, 3, 4, 5, 6, 7, 8, 9, 10, 11, 12, 13, 14, 18};
        for (int what : none) {
            Check.due("count " + what, house.count(what), 0);
        }
        Check.due("FLAGS", house.count(17), 127);
        Check.due("no cursor", house.count(15), -1);
        Check.due("no cursor", house.count(16), -1);
    }

    private static void feeding() {
        Check.says("Twenty bytes come behind the tape, the highest of each int first: true; false if it would have more than 3000.");
        TerminalHouse house = new TerminalHouse(4, 16, 1);
        house.flags(0);
        for (int i = 1; i <= 149; i++) {
            Check.due("feed", house.feed(0x41414141, 0x41414141, 0x41414141, 0x41414141, 0x41414141), true);
            Check.due("bytes of the tape", house.count(13), 20 * i);
        }
        Check.due("end", house.end(2980), true);
        Check.due("feed", house.feed(0x42424242, 0, 0, 0, 0), true);
        Check.due("3000", house.count(13), 3000);
        Check.due("one more", house.feed(0x43434343, 0, 0, 0, 0), false);
        Check.due("3000", house.count(13), 3000);
        Check.due("end", house.end(2981), true);
        Check.due("3001 are too many", house.feed(0x43434343, 0, 0, 0, 0), false);
        Check.due("2981", house.count(13), 2981);
        Check.due("all are written", house.write(), 2981);
        house.ticks(2000);
        house.ticks(2000);
        house.ticks(2000);
        Check.due("the last one", house.screen(house.state(0), house.state(1) - 1), 'B');
        Check.due("the one ahead of it", house.screen(house.state(0), house.state(1) - 2), 'A');
    }

    private static void order() {
        // the bytes of a STRING show each place of the twenty
        TerminalHouse house = new TerminalHouse(4, 16, 1);
        Check.describe(house, "t,\n cols#16, lines#4, clear=, cup=,\n");
        house.end(0);
        // u , NL SP e l = a b c d e f g h i j k l , (twenty bytes)
        Check.due("feed", house.feed(0x752c0a20, 0x656c3d61, 0x62636465, 0x66676869, 0x6a6b6c2c), true);
        Check.due("describe", house.describe(), 2);
        Check.due("use can't be", Check.use(house, "u"), -2);
        Check.due("a third", Check.describe(house, "v,\n use=t, use=u,\n"), 3);
        Check.use(house, "v");
        Check.due("el", Check.ability(house, "el"), 12);
        Check.due("in their order", Check.out(house), "abcdefghijkl");
        house.feed(-1, 0x80ff7f00, LEAST, MOST, 1);
        house.end(20);
        house.flags(0);
        Check.due("any bytes", house.write(), 20);
    }

    private static void ending() {
        Check.says("The tape has its first n bytes alone: true; false if it has not so many, or n is below 0.");
        TerminalHouse house = new TerminalHouse(4, 16, 1);
        house.flags(0);
        int[] wrong = {LEAST, -1, 1, 20, MOST};
        for (int n : wrong) {
            Check.due("end " + n + " of nothing", house.end(n), false);
        }
        Check.due("end 0 of nothing", house.end(0), true);
        house.feed(0x61626364, 0x65666768, 0, 0, 0);
        int[] more = {LEAST, -20, -1, 21, 40, 3000, MOST};
        for (int n : more) {
            Check.due("end " + n + " of twenty", house.end(n), false);
            Check.due("bytes of the tape", house.count(13), 20);
        }
        Check.due("all", house.end(20), true);
        Check.due("some", house.end(3), true);
        Check.due("bytes of the tape", house.count(13), 3);
        Check.due("no way back", house.end(4), false);
        house.feed(0x78797a00, 0, 0, 0, 0);
        Check.due("behind the three", house.count(13), 23);
        house.end(5);
        Check.due("write", house.write(), 5);
        Check.rest(house);
        Check.due("row", Check.row(house, 0), "abcxy");
        house.feed(0x61626364, 0, 0, 0, 0);
        Check.due("none", house.end(0), true);
        Check.due("write", house.write(), 0);
    }

    private static void octets(TerminalHouse house, String bytes) {
        int[] none = {LEAST, -1, bytes.length(), bytes.length() + 1, 300, MOST};
        for (int i : none) {
            Check.due("octet " + i + " throws", Check.throwsAt(house, i), true);
        }
        for (int i = 0; i < bytes.length(); i++) {
            Check.due("octet " + i, house.octet(i), bytes.charAt(i));
        }
    }

    private static void outs() {
        Check.says("Byte i of THE OUT (what ability(), expand(), read() wrote latest; at first nothing). NoSuchElementException: there is none.");
        TerminalHouse house = new TerminalHouse(4, 16, 1);
        octets(house, "");
        String forty = "x".repeat(39) + "y";
        Check.describe(house, "t,\n cols#16, lines#4, clear=, cup=" + "%p1%d".repeat(6) + ",\n bel=\\377^@\\001, el=" + forty + ",\n");
        Check.use(house, "t");
        octets(house, "");
        Check.due("el", Check.ability(house, "el"), 40);
        octets(house, forty);
        Check.due("bel", Check.ability(house, "bel"), 3);
        octets(house, "\u00ff\0\u0001");
        Check.due("cup", Check.expand(house, "cup", LEAST, 0, 0, 0), 60);
        octets(house, "-2147483648".repeat(6).substring(0, 60));
        Check.due("clear", Check.ability(house, "clear"), 0);
        octets(house, "");
        Check.due("cup", Check.expand(house, "cup", 7, 0, 0, 0), 6);
        house.empty();
        octets(house, "777777");
        Check.write(house, "ab");
        octets(house, "777777");
    }

    private static void outOfReads() {
        TerminalHouse house = Check.plainHouse(4, 16);
        house.key('a', true);
        house.ticks(4 + 32 + 4 * 297);
        house.key('b', true);
        house.key('a', false);
        house.ticks(8);
        Check.due("READY", house.count(8), 300);
        Check.due("read", house.read(300), 300);
        Check.due("the first", house.octet(0), 'a');
        Check.due("the last", house.octet(299), 'b');
        Check.due("none behind it", Check.throwsAt(house, 300), true);
        Check.due("nothing is READY", house.read(1), -1);
        Check.due("THE OUT stays", house.octet(299), 'b');
    }

    private static void tapeIsEmptied() {
        Check.says("---- descriptions (what reads the tape empties it, whatever it answers).");
        TerminalHouse house = new TerminalHouse(4, 16, 1);
        String[] texts = {"x,\n", "x,\n", "!", "t,\n cols#16, lines#4, clear=, cup=,\n"};
        int[] answers = {1, -1, -1, 2};
        for (int i = 0; i < texts.length; i++) {
            Check.due("describe", Check.describe(house, texts[i]), answers[i]);
            Check.due("the tape is empty", house.count(13), 0);
        }
        String[] names = {"none", "x", "t"};
        int[] uses = {-1, -2, 0};
        for (int i = 0; i < names.length; i++) {
            Check.due("use", Check.use(house, names[i]), uses[i]);
            Check.due("the tape is empty", house.count(13), 0);
        }
        String[] abilities = {"am", "cols", "cup", "el", "none"};
        for (String name : abilities) {
            Check.ability(house, name);
            Check.due("the tape is empty", house.count(13), 0);
            Check.expand(house, name, 0, 0, 0, 0);
            Check.due("the tape is empty", house.count(13), 0);
        }
        house.open(0, 0, 1, 1);
        for (int window = -1; window < 2; window++) {
            Check.due("say", Check.say(house, window, "xyz"), window == 0 ? 1 : -1);
            Check.due("the tape is empty", house.count(13), 0);
        }
        Check.write(house, "x");
        Check.due("the tape is empty", house.count(13), 0);
        Check.feed(house, "abc");
        house.empty();
        house.update();
        house.ticks(5);
        house.read(5);
        Check.due("the others leave it", house.count(13), 3);
    }

    private static void faults() {
        Check.says("Of the latest describe(): 0 its fault's number (0 without one), 1 its place (NONE without one). NONE for another what.");
        TerminalHouse house = new TerminalHouse(4, 16, 1);
        String[] texts = {"", "a,\n", "b,\nA", "c,\n am,\n", "abcdefghijklm,", "d,\n"};
        int[] numbers = {0, 0, 1, 0, 2, 0};
        int[] places = {-1, -1, 3, -1, 0, -1};
        int[] others = {LEAST, -1, 2, 3, MOST};
        Check.due("at first", house.fault(0), 0);
        Check.due("at first", house.fault(1), -1);
        for (int i = 0; i < texts.length; i++) {
            Check.describe(house, texts[i]);
            Check.due("number", house.fault(0), numbers[i]);
            Check.due("place", house.fault(1), places[i]);
            for (int what : others) {
                Check.due("fault " + what, house.fault(what), -1);
            }
        }
        Check.describe(house, "!");
        Check.use(house, "a");
        house.empty();
        Check.due("of the latest describe, whatever came behind it", house.fault(0), 1);
    }

    private static void abilities() {
        Check.says("of a FLAG of the type in use 1 or 0; its NUMBER; how many bytes its STRING has, which is written to THE OUT. NONE: there is none such, it has"
            + " none, or no type is in use (THE OUT stays).");
        TerminalHouse house = new TerminalHouse(4, 16, 1);
        Check.describe(house, "t,\n am, xenl@, cols#80, lines#24, it@, clear=, cup=abc, el@,\n");
        String[] names = {"am", "xenl", "msgr", "cols", "lines", "it", "clear", "cup", "el", "ri"};
        int[] due = {1, 0, 0, 80, 24, -1, 0, 3, -1, -1};
        for (String name : names) {
            Check.due("without a type " + name, Check.ability(house, name), -1);
        }
        Check.use(house, "t");
        for (int i = 0; i < names.length; i++) {
            Check.due(names[i], Check.ability(house, names[i]), due[i]);
        }
        Check.due("THE OUT stays", Check.out(house), "abc");
        String[] none = {"", "a", "c", "amx", "xam", "Am", "am,", "am\n", "use", "cols#", "linesx", "\0", "am\0"};
        for (String name : none) {
            Check.due("ability " + name, Check.ability(house, name), -1);
        }
        Check.due("THE OUT stays", Check.out(house), "abc");
    }

    private static void counts() {
        Check.says("NONE for others.");
        TerminalHouse house = new TerminalHouse(4, 16, 1);
        int[] others = {LEAST, -2, -1, 19, 20, 100, MOST};
        for (int what : others) {
            Check.due("count " + what, house.count(what), -1);
            Check.due("state " + what, house.state(what), -1);
        }
    }
}
