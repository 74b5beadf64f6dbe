/** Promises 1 to 4: a new object, feed, end, octet. */
public final class TapeTest {
    public static void main(String[] args) {
        newObject();
        sizes();
        tape();
        out();
        Check.finish("TapeTest");
    }

    private static void newObject() {
        TerminalHouse house = new TerminalHouse(6, 20, 3);
        int[] counts = {0, 0, 0, 0, 0, 0, 0, 0, 0, 0, 0, 0, 0, 0, 0, -1, -1, 127, 0};
        for (int i = 0; i < counts.length; i++) {
            Check.due("count(" + i + ") of a new object", house.count(i), counts[i]);
        }
        int[] states = {0, 0, 0, 0, 5, 0, 96, 0, 0, 0, 0, 0, 0, 0, 0, 0, 0, 0, -1};
        for (int i = 0; i < states.length; i++) {
            Check.due("state(" + i + ") of a new object", house.state(i), states[i]);
        }
        for (int y = 0; y < 6; y++) {
            Check.due("row", Check.row(house, y), "");
            Check.due("width", house.width(y), 0);
        }
        Check.due("fault(0)", house.fault(0), 0);
        Check.due("fault(1)", house.fault(1), -1);
        Check.due("fault(2)", house.fault(2), -1);
        Check.due("update without a type", house.update(), -1);
        Check.due("redraw without a type", house.redraw(), false);
        Check.due("known without a type", house.known(0, 0), -1);
        Check.due("wanted without a type", house.wanted(0, 0), -1);
        Check.due("open without a type", house.open(0, 0, 1, 1), -1);
    }

    private static void sizes() {
        int[][] told = {{4, 16, 1}, {24, 80, 16}, {3, 15, 0}, {25, 81, 17}, {5, 17, 2}, {6, 79, 3},
            {Integer.MIN_VALUE, Integer.MIN_VALUE, Integer.MIN_VALUE},
            {Integer.MAX_VALUE, Integer.MAX_VALUE, Integer.MAX_VALUE}};
        int[][] made = {{4, 16, 1}, {24, 80, 16}, {4, 16, 1}, {24, 80, 16}, {5, 16, 2}, {6, 78, 3},
            {4, 16, 1}, {24, 80, 16}};
        for (int i = 0; i < told.length; i++) {
            TerminalHouse house = new TerminalHouse(told[i][0], told[i][1], told[i][2]);
            int rows = made[i][0];
            int columns = made[i][1];
            Check.due("last cell", house.screen(rows - 1, columns - 1), 32);
            Check.due("row behind", house.screen(rows, 0), -1);
            Check.due("column behind", house.screen(0, columns), -1);
            Check.due("width behind", house.width(rows), -1);
            Check.due("stop behind", house.stop(0, columns), -1);
            Check.due("BOTTOM", house.state(4), rows - 1);
            Check.write(house, "x");
            house.ticks(made[i][2]);
            Check.due("not yet there", house.screen(0, 0), 32);
            house.ticks(1);
            Check.due("there", house.screen(0, 0), 'x');
        }
    }

    private static void tape() {
        TerminalHouse house = new TerminalHouse(4, 16, 1);
        Check.due("end(1) of nothing", house.end(1), false);
        Check.due("end(0) of nothing", house.end(0), true);
        Check.due("end(-1)", house.end(-1), false);
        for (int i = 0; i < 150; i++) {
            Check.due("feed", house.feed(0, 0, 0, 0, 0), true);
        }
        Check.due("count(13)", house.count(13), 3000);
        Check.due("feed beyond", house.feed(0, 0, 0, 0, 0), false);
        Check.due("count(13)", house.count(13), 3000);
        Check.due("end beyond", house.end(3001), false);
        Check.due("end(2981)", house.end(2981), true);
        Check.due("feed beyond", house.feed(0, 0, 0, 0, 0), false);
        Check.due("end(2980)", house.end(2980), true);
        Check.due("feed to the end", house.feed(0, 0, 0, 0, 0), true);
        Check.due("end(least)", house.end(Integer.MIN_VALUE), false);
        Check.due("end(most)", house.end(Integer.MAX_VALUE), false);
        house.end(0);
        // the highest byte of each int comes first
        house.feed(0x41424344, 0x45464748, 0x494a4b4c, 0x4d4e4f50, 0x51525354);
        house.end(20);
        house.flags(0);
        Check.due("write", house.write(), 20);
        Check.due("write empties the tape", house.count(13), 0);
        Check.rest(house);
        Check.due("row 0", Check.row(house, 0), "ABCDEFGHIJKLMNOP");
        Check.due("row 1", Check.row(house, 1), "QRST");
        TerminalHouse high = Check.plainHouse(4, 16);
        high.feed(0xff41ff42, 0, 0, 0, 0);
        high.end(4);
        Check.due("write of high bytes", high.write(), 4);
        Check.rest(high);
        Check.due("high bytes are nothing to the terminal", Check.row(high, 0), "AB");
    }

    private static void out() {
        TerminalHouse house = new TerminalHouse(4, 16, 1);
        Check.due("octet(0) of nothing", Check.throwsAt(house, 0), true);
        Check.describe(house, "t,\n cols#16, lines#4, clear=^L, cup=c%p1%d, bel=, el=abc,\n");
        Check.use(house, "t");
        Check.due("ability el", Check.ability(house, "el"), 3);
        Check.due("out", Check.out(house), "abc");
        Check.due("octet(2)", house.octet(2), 'c');
        int[] none = {3, -1, Integer.MIN_VALUE, Integer.MAX_VALUE, 300};
        for (int i : none) {
            Check.due("octet(" + i + ") throws", Check.throwsAt(house, i), true);
        }
        Check.ability(house, "cols");
        Check.ability(house, "ri");
        Check.due("a number leaves the out", Check.out(house), "abc");
        Check.due("expand cup", Check.expand(house, "cup", 12, 0, 0, 0), 3);
        Check.due("out", Check.out(house), "c12");
        Check.due("read of nothing", house.read(5), -1);
        Check.due("out", Check.out(house), "c12");
        Check.due("ability bel", Check.ability(house, "bel"), 0);
        Check.due("an empty string empties the out", Check.out(house), "");
        Check.due("octet(0) of nothing", Check.throwsAt(house, 0), true);
    }
}
