/** Promises 35 to 37 and 39: screen, width, state, stop: what the bytes do on the terminal. */
public final class TerminalTest {
    private static final String ESC = Check.ESC;
    private static final int LEAST = Integer.MIN_VALUE;
    private static final int MOST = Integer.MAX_VALUE;

    public static void main(String[] args) {
        wrongPlaces();
        printing();
        wrapping();
        controls();
        stops();
        indexing();
        margins();
        moving();
        origin();
        erasing();
        widths();
        rowsAndCells();
        insertMode();
        attributes();
        sets();
        saving();
        readingStates();
        sequences();
        modes();
        answers();
        resetting();
        Check.finish("TerminalTest");
    }

    static TerminalHouse after(String text) {
        TerminalHouse house = Check.plainHouse(5, 16);
        Check.does(house, text);
        return house;
    }

    static void rows(TerminalHouse house, String... rows) {
        for (int y = 0; y < rows.length; y++) {
            Check.due("row " + y, Check.row(house, y), rows[y]);
        }
    }

    static void cursor(TerminalHouse house, int y, int x, int pending) {
        Check.due("row", house.state(0), y);
        Check.due("column", house.state(1), x);
        Check.due("pending", house.state(2), pending);
    }

    static String to(int row, int column) {
        return ESC + "[" + row + ";" + column + "H";
    }

    /** Five rows of letters, the cursor at row 2, column 2. */
    static String letters() {
        return "aaaa\r\nbbbb\r\ncccc\r\ndddd\r\neeee" + to(3, 3);
    }

    private static void wrongPlaces() {
        TerminalHouse house = after("x");
        int[] wrong = {-1, LEAST, MOST};
        for (int n : wrong) {
            Check.due("screen", house.screen(n, 0), -1);
            Check.due("screen", house.screen(0, n), -1);
            Check.due("width", house.width(n), -1);
            Check.due("stop", house.stop(n, 0), -1);
            Check.due("stop", house.stop(0, n), -1);
            Check.due("state", house.state(n), -1);
            Check.due("count", house.count(n), -1);
        }
        Check.due("screen", house.screen(5, 0), -1);
        Check.due("screen", house.screen(0, 16), -1);
        Check.due("width", house.width(5), -1);
        Check.due("stop", house.stop(5, 0), -1);
        Check.due("stop", house.stop(0, 16), -1);
        Check.due("state(19)", house.state(19), -1);
        Check.due("count(19)", house.count(19), -1);
    }

    private static void printing() {
        TerminalHouse house = after("ab\0\u007f\u0080\u00ffc");
        rows(house, "abc", "");
        cursor(house, 0, 3, 0);
        Check.due("screen", house.screen(0, 2), 'c');
    }

    private static void wrapping() {
        String full = "0123456789abcdef";
        cursor(after(full.substring(1)), 0, 15, 0);
        TerminalHouse house = after(full);
        cursor(house, 0, 15, 1);
        rows(house, full, "");
        Check.does(house, "g");
        rows(house, full, "g");
        cursor(house, 1, 1, 0);
        cursor(after(full + "\r"), 0, 0, 0);
        cursor(after(full + "\b"), 0, 14, 0);
        cursor(after(full + "\t"), 0, 15, 1);
        cursor(after(full + "\n"), 1, 15, 0);
        cursor(after(ESC + "[5H" + full + "\n"), 4, 15, 0);
        cursor(after(full + ESC + "M"), 0, 15, 0);
        cursor(after("\n" + full + ESC + "M"), 0, 15, 0);
        cursor(after(full + ESC + "[C"), 0, 15, 0);
        cursor(after(full + ESC + "[A"), 0, 15, 0);
        cursor(after(full + ESC + "[K"), 0, 15, 1);
        cursor(after(full + ESC + "[J"), 0, 15, 1);
        cursor(after(full + ESC + "[X"), 0, 15, 0);
        cursor(after(full + ESC + "[P"), 0, 15, 0);
        cursor(after(full + ESC + "[@"), 0, 15, 0);
        cursor(after(full + ESC + "[m" + ESC + "H"), 0, 15, 1);
        TerminalHouse still = after(ESC + "[?7l" + full + "xyz");
        rows(still, "0123456789abcdez", "");
        cursor(still, 0, 15, 0);
        TerminalHouse late = after(full + ESC + "[?7lx");
        rows(late, "0123456789abcdex", "");
        cursor(late, 0, 15, 0);
        Check.does(late, ESC + "[?7hyz");
        rows(late, "0123456789abcdey", "z");
    }

    private static void controls() {
        TerminalHouse house = after("ab\u0007\u0007\rc\bd\u000be\ff");
        Check.due("bells", house.state(8), 2);
        rows(house, "db", " e", "  f");
        cursor(after("\b\b"), 0, 0, 0);
        cursor(after("ab\n"), 1, 2, 0);
        cursor(after(ESC + "[20hab\n"), 1, 0, 0);
        cursor(after("ab\u0001\u0002\u0005\u0006\u0010\u0012\u0014\u0019\u001c\u001f"), 0, 2, 0);
    }

    private static void stops() {
        TerminalHouse house = after("\tx");
        rows(house, "        x");
        Check.due("stop", house.stop(0, 8), 1);
        Check.due("stop of another row", house.stop(4, 8), 1);
        Check.due("stop", house.stop(0, 0), 0);
        Check.due("stop", house.stop(0, 15), 0);
        Check.does(house, "\t");
        cursor(house, 0, 15, 0);
        Check.does(house, "\r" + ESC + "[3C" + ESC + "H\r\t");
        cursor(house, 0, 3, 0);
        Check.due("stop", house.stop(2, 3), 1);
        Check.does(house, ESC + "[g\r\t");
        cursor(house, 0, 8, 0);
        Check.does(house, ESC + "[1g" + ESC + "[2g");
        Check.due("stop", house.stop(0, 8), 1);
        Check.does(house, ESC + "[3g\r\t");
        Check.due("stop", house.stop(0, 8), 0);
        cursor(house, 0, 15, 0);
        // in a wide row a STOP beyond LAST is LAST
        cursor(after(ESC + "#6\t"), 0, 7, 0);
    }

    private static void indexing() {
        TerminalHouse house = after(letters() + to(5, 3) + "\nf");
        rows(house, "bbbb", "cccc", "dddd", "eeee", "  f");
        house = after(letters() + to(1, 3) + ESC + "Mz");
        rows(house, "  z", "aaaa", "bbbb", "cccc", "dddd");
        house = after(letters() + ESC + "Mz" + ESC + "Dy" + ESC + "Ex");
        rows(house, "aaaa", "bbzb", "cccy", "xddd", "eeee");
        // outside the margins the screen's edges hold the cursor, and nothing scrolls
        house = after(letters() + ESC + "[2;4r" + to(5, 2) + "\n" + ESC + "D");
        cursor(house, 4, 1, 0);
        rows(house, "aaaa", "bbbb", "cccc", "dddd", "eeee");
        house = after(letters() + ESC + "[2;4r" + to(1, 2) + ESC + "M");
        cursor(house, 0, 1, 0);
        rows(house, "aaaa", "bbbb", "cccc", "dddd", "eeee");
    }

    private static void margins() {
        TerminalHouse house = after(letters() + ESC + "[2;4r");
        cursor(house, 0, 0, 0);
        Check.due("TOP", house.state(3), 1);
        Check.due("BOTTOM", house.state(4), 3);
        Check.does(house, to(4, 1) + "\n");
        rows(house, "aaaa", "cccc", "dddd", "", "eeee");
        Check.does(house, to(2, 1) + ESC + "M");
        rows(house, "aaaa", "", "cccc", "dddd", "eeee");
        String[] wrong = {"[3;3r", "[4;2r", "[2;6r", "[0;1r", "[5r", "[9999;9999r", "[?1;2r"};
        for (String s : wrong) {
            Check.does(house, to(3, 3) + ESC + s);
            Check.due("TOP", house.state(3), 1);
            Check.due("BOTTOM", house.state(4), 3);
            cursor(house, 2, 2, 0);
        }
        Check.does(house, ESC + "[;2r");
        Check.due("TOP", house.state(3), 0);
        Check.due("BOTTOM", house.state(4), 1);
        Check.does(house, ESC + "[4r");
        Check.due("TOP", house.state(3), 3);
        Check.due("BOTTOM", house.state(4), 4);
        Check.does(house, ESC + "[r");
        Check.due("TOP", house.state(3), 0);
        Check.due("BOTTOM", house.state(4), 4);
    }

    private static void moving() {
        String here = to(3, 5);
        cursor(after(here + ESC + "[A"), 1, 4, 0);
        cursor(after(here + ESC + "[0A"), 1, 4, 0);
        cursor(after(here + ESC + "[2A"), 0, 4, 0);
        cursor(after(here + ESC + "[9A"), 0, 4, 0);
        cursor(after(here + ESC + "[B"), 3, 4, 0);
        cursor(after(here + ESC + "[99B"), 4, 4, 0);
        cursor(after(here + ESC + "[C"), 2, 5, 0);
        cursor(after(here + ESC + "[99C"), 2, 15, 0);
        cursor(after(here + ESC + "[3D"), 2, 1, 0);
        cursor(after(here + ESC + "[99D"), 2, 0, 0);
        cursor(after(here + ESC + "[G"), 2, 0, 0);
        cursor(after(here + ESC + "[7G"), 2, 6, 0);
        cursor(after(here + ESC + "[17G"), 2, 15, 0);
        cursor(after(here + ESC + "[d"), 0, 4, 0);
        cursor(after(here + ESC + "[4d"), 3, 4, 0);
        cursor(after(here + ESC + "[99d"), 4, 4, 0);
        cursor(after(here + ESC + "[H"), 0, 0, 0);
        cursor(after(here + ESC + "[2f"), 1, 0, 0);
        cursor(after(here + ESC + "[;4f"), 0, 3, 0);
        cursor(after(here + ESC + "[99;99H"), 4, 15, 0);
        cursor(after(here + ESC + "[99999999999;2H"), 4, 1, 0);
        // TOP and BOTTOM hold what is between them
        String set = ESC + "[2;4r";
        cursor(after(set + to(3, 1) + ESC + "[9A"), 1, 0, 0);
        cursor(after(set + to(1, 1) + ESC + "[A"), 0, 0, 0);
        cursor(after(set + to(5, 1) + ESC + "[9A"), 1, 0, 0);
        cursor(after(set + to(3, 1) + ESC + "[9B"), 3, 0, 0);
        cursor(after(set + to(1, 1) + ESC + "[9B"), 3, 0, 0);
        cursor(after(set + to(5, 1) + ESC + "[9B"), 4, 0, 0);
        cursor(after(set + to(4, 1) + ESC + "[9B"), 3, 0, 0);
        cursor(after(set + to(2, 1) + ESC + "[9A"), 1, 0, 0);
    }

    private static void origin() {
        String set = ESC + "[2;4r" + ESC + "[?6h";
        TerminalHouse house = after(set);
        cursor(house, 1, 0, 0);
        Check.due("modes", house.state(6), 96 + 16);
        cursor(after(set + to(2, 3)), 2, 2, 0);
        cursor(after(set + to(9, 3)), 3, 2, 0);
        cursor(after(set + "xy" + ESC + "[3d"), 3, 2, 0);
        cursor(after(set + ESC + "[9d"), 3, 0, 0);
        cursor(after(set + ESC + "[3;4r"), 2, 0, 0);
        cursor(after(set + ESC + "[?6l"), 0, 0, 0);
        cursor(after(set + ESC + "[?6l" + to(5, 2)), 4, 1, 0);
    }

    private static void erasing() {
        String e = "EEEEEEEEEEEEEEEE";
        String set = ESC + "#8" + to(3, 5);
        TerminalHouse house = after(set);
        rows(house, e, e, e, e, e);
        Check.due("cell", house.screen(4, 15), 69);
        rows(after(set + ESC + "[K"), e, e, "EEEE", e, e);
        rows(after(set + ESC + "[0K"), e, e, "EEEE", e, e);
        rows(after(set + ESC + "[1K"), e, e, "     EEEEEEEEEEE", e, e);
        rows(after(set + ESC + "[2K"), e, e, "", e, e);
        rows(after(set + ESC + "[3K"), e, e, e, e, e);
        rows(after(set + ESC + "[J"), e, e, "EEEE", "", "");
        rows(after(set + ESC + "[1J"), "", "", "     EEEEEEEEEEE", e, e);
        rows(after(set + ESC + "[2J"), "", "", "", "", "");
        rows(after(set + ESC + "[3J"), e, e, e, e, e);
        cursor(after(set + ESC + "[2J"), 2, 4, 0);
        Check.due("without attributes", after(ESC + "[7m" + set + ESC + "[J").screen(4, 4), 32);
        TerminalHouse aligned = after(ESC + "[2;3r" + ESC + "[7m" + to(2, 2) + ESC + "#6" + ESC + "#8");
        cursor(aligned, 0, 0, 0);
        Check.due("TOP", aligned.state(3), 0);
        Check.due("BOTTOM", aligned.state(4), 4);
        Check.due("width", aligned.width(1), 0);
        Check.due("without attributes", aligned.screen(2, 2), 69);
        Check.due("attributes stay", aligned.state(5), 8);
    }

    private static void widths() {
        int[] told = {'3', '4', '5', '6'};
        int[] due = {2, 3, 0, 1};
        for (int i = 0; i < 4; i++) {
            TerminalHouse house = after("0123456789abcdef" + to(1, 4) + ESC + "#6" + ESC + "#" + (char) told[i]);
            Check.due("width", house.width(0), due[i]);
            Check.due("others are plain", house.width(1), 0);
            rows(house, "01234567", "");
            cursor(house, 0, 3, 0);
        }
        cursor(after(to(2, 12) + ESC + "#6"), 1, 7, 0);
        cursor(after("0123456789abcdef" + ESC + "#6"), 0, 7, 0);
        TerminalHouse house = after(ESC + "#601234567");
        cursor(house, 0, 7, 1);
        Check.does(house, "8");
        rows(house, "01234567", "8");
        // the column is at most LAST wherever it goes
        cursor(after(ESC + "#6\n" + to(2, 12) + ESC + "[A"), 0, 7, 0);
        cursor(after(ESC + "#6" + to(1, 12)), 0, 7, 0);
        cursor(after(ESC + "#6" + ESC + "[99C"), 0, 7, 0);
        cursor(after("\n" + ESC + "#6" + to(1, 12) + "\n"), 1, 7, 0);
        // rows move with their widths
        house = after(to(5, 1) + ESC + "#6x\r\n");
        Check.due("width", house.width(3), 1);
        Check.due("width", house.width(4), 0);
        Check.does(house, to(1, 1) + ESC + "M");
        Check.due("width", house.width(4), 1);
        Check.does(house, to(3, 1) + ESC + "[2M");
        Check.due("width", house.width(2), 1);
        Check.does(house, ESC + "[L");
        Check.due("width", house.width(2), 0);
        Check.due("width", house.width(3), 1);
        // what is erased wholly becomes plain
        String wide = to(1, 1) + ESC + "#6abcdefgh" + to(2, 1) + ESC + "#6abcdefgh" + to(3, 1) + ESC + "#6abcdefgh";
        String[] erased = {to(2, 2) + ESC + "[J", to(2, 1) + ESC + "[J", to(2, 7) + ESC + "[1J",
            to(2, 8) + ESC + "[1J", to(2, 2) + ESC + "[2J", to(2, 1) + ESC + "[2K"};
        String[] widths = {"110", "100", "011", "001", "000", "111"};
        for (int i = 0; i < erased.length; i++) {
            house = after(wide + erased[i]);
            Check.due("widths", "" + house.width(0) + house.width(1) + house.width(2), widths[i]);
        }
    }

    private static void rowsAndCells() {
        String set = letters();
        TerminalHouse house = after(set + ESC + "[L");
        rows(house, "aaaa", "bbbb", "", "cccc", "dddd");
        cursor(house, 2, 0, 0);
        rows(after(set + ESC + "[2L"), "aaaa", "bbbb", "", "", "cccc");
        rows(after(set + ESC + "[99L"), "aaaa", "bbbb", "", "", "");
        rows(after(set + ESC + "[M"), "aaaa", "bbbb", "dddd", "eeee", "");
        rows(after(set + ESC + "[99M"), "aaaa", "bbbb", "", "", "");
        String margins = ESC + "[2;4r" + to(3, 3);
        rows(after(set + margins + ESC + "[L"), "aaaa", "bbbb", "", "cccc", "eeee");
        rows(after(set + margins + ESC + "[M"), "aaaa", "bbbb", "dddd", "", "eeee");
        rows(after(set + margins + to(4, 3) + ESC + "[L"), "aaaa", "bbbb", "cccc", "", "eeee");
        rows(after(set + margins + to(2, 3) + ESC + "[M"), "aaaa", "cccc", "dddd", "", "eeee");
        house = after(set + margins + to(1, 3) + ESC + "[L" + ESC + "[M");
        rows(house, "aaaa", "bbbb", "cccc", "dddd", "eeee");
        house = after(set + margins + to(5, 3) + ESC + "[L" + ESC + "[M");
        rows(house, "aaaa", "bbbb", "cccc", "dddd", "eeee");
        cursor(house, 4, 2, 0);
        String row = "0123456789abcdef" + to(1, 5);
        rows(after(row + ESC + "[@"), "0123 456789abcde");
        rows(after(row + ESC + "[3@"), "0123   456789abc");
        rows(after(row + ESC + "[99@"), "0123");
        rows(after(row + ESC + "[P"), "012356789abcdef");
        rows(after(row + ESC + "[3P"), "0123789abcdef");
        rows(after(row + ESC + "[99P"), "0123");
        rows(after(row + ESC + "[X"), "0123 56789abcdef");
        rows(after(row + ESC + "[3X"), "0123   789abcdef");
        rows(after(row + ESC + "[99X"), "0123");
        String e = "EEEEEEEEEEEEEEEE";
        rows(after(ESC + "#8" + to(2, 5) + ESC + "[99X"), e, "EEEE", e);
        rows(after(ESC + "#8" + to(2, 5) + ESC + "[99@"), e, "EEEE", e);
        rows(after(ESC + "#8" + to(2, 5) + ESC + "[99P"), e, "EEEE", e);
        cursor(after(row + ESC + "[3X" + ESC + "[3@" + ESC + "[3P"), 0, 4, 0);
        String wide = ESC + "#601234567" + to(1, 3);
        rows(after(wide + ESC + "[@"), "01 23456");
        rows(after(wide + ESC + "[P"), "0134567");
        rows(after(wide + ESC + "[99X"), "01");
    }

    private static void insertMode() {
        TerminalHouse house = after("0123456789abcdef" + to(1, 5) + ESC + "[4hxy");
        rows(house, "0123xy456789abcd");
        Check.due("modes", house.state(6), 97);
        Check.does(house, ESC + "[4lz");
        rows(house, "0123xyz56789abcd");
        rows(after(ESC + "#601234567" + to(1, 3) + ESC + "[4hx"), "01x23456");
    }

    private static void attributes() {
        TerminalHouse house = after(ESC + "[1mb" + ESC + "[4mu" + ESC + "[5mk" + ESC + "[7mr" + ESC + "[22ma"
            + ESC + "[24mb" + ESC + "[25mc" + ESC + "[27md" + ESC + "[1;7;99mx" + ESC + "[my" + ESC + "[1;0;4mz");
        int[] due = {1, 3, 7, 15, 14, 12, 8, 0, 9, 0, 2};
        for (int x = 0; x < due.length; x++) {
            Check.due("attributes " + x, house.screen(0, x) >> 8, due[x]);
        }
        Check.due("attributes", house.state(5), 2);
        Check.due("a blank with attributes", after(ESC + "[7m ").screen(0, 0), 32 + 256 * 8);
    }

    private static void sets() {
        TerminalHouse house = after("a" + ESC + "(0_a~^Z" + ESC + "(Ba" + ESC + ")0\u000ea\u000fa");
        int[] due = {'a', '_' + 128, 'a' + 128, '~' + 128, '^', 'Z', 'a', 'a' + 128, 'a'};
        for (int x = 0; x < due.length; x++) {
            Check.due("sign " + x, house.screen(0, x), due[x]);
        }
        Check.due("set in use", house.state(17), 0);
        Check.due("set in use", after("\u000e").state(17), 1);
        Check.due("set 1 is plain", after("\u000ea").screen(0, 0), 'a');
        Check.due("another set is nothing", after(ESC + "(0" + ESC + "(Aa").screen(0, 0), 'a' + 128);
        Check.due("26 is a sign", after(ESC + "[1m\u001a").screen(0, 0), 225 + 256);
    }

    private static void saving() {
        String set = to(3, 5) + ESC + "[1;7m" + ESC + "(0\u000e" + ESC + "7" + ESC + "[m" + ESC + "(B\u000f"
            + ESC + "[2;4r" + ESC + "[?6h";
        TerminalHouse house = after(set);
        cursor(house, 1, 0, 0);
        Check.does(house, ESC + "8");
        cursor(house, 2, 4, 0);
        Check.due("attributes", house.state(5), 9);
        Check.due("set", house.state(17), 1);
        Check.due("ORIGIN is off", house.state(6), 96);
        Check.due("TOP stays", house.state(3), 1);
        Check.does(house, "\u000fa");
        Check.due("sets", house.screen(2, 4), 'a' + 128 + 256 * 9);
        // without SAVE it is as at first
        house = after(to(4, 4) + ESC + "[1m\u000e" + ESC + "[?6h" + ESC + "8");
        cursor(house, 0, 0, 0);
        Check.due("attributes", house.state(5), 0);
        Check.due("set", house.state(17), 0);
        Check.due("modes", house.state(6), 96);
        // ORIGIN comes back, and the column goes as far as it can
        house = after(ESC + "[2;4r" + ESC + "[?6h" + to(1, 12) + ESC + "7" + ESC + "[?6l" + to(2, 1) + ESC + "#6"
            + to(5, 1) + ESC + "8");
        cursor(house, 1, 7, 0);
        Check.due("modes", house.state(6), 112);
    }

    private static void reading(String text, int state, String row) {
        TerminalHouse house = after(text);
        Check.due("reading behind " + text.replace(ESC, "ESC"), house.state(15), state);
        Check.due("row behind " + text.replace(ESC, "ESC"), Check.row(house, 0), row);
    }

    private static void readingStates() {
        reading("a", 0, "a");
        reading(ESC, 1, "");
        reading(ESC + "#", 1, "");
        reading(ESC + " ", 2, "");
        reading(ESC + "$", 2, "");
        reading(ESC + "##", 2, "");
        reading(ESC + "(#", 2, "");
        reading(ESC + "$ /Ba", 0, "a");
        reading(ESC + "$0a", 0, "a");
        reading(ESC + "$/", 2, "");
        reading(ESC + "[ @a", 0, "a");
        reading(ESC + "[ ?", 4, "");
        reading(ESC + "#8" + ESC + "[2J" + "##", 0, "##");
        reading(ESC + "(]a", 0, "a");
        reading(ESC + "([a", 0, "a");
        reading(ESC + "?a", 0, "a");
        reading(ESC + "~a", 0, "a");
        reading(ESC + "[", 3, "");
        reading(ESC + "[1;", 3, "");
        reading(ESC + "[?", 3, "");
        reading(ESC + "[1?", 4, "");
        reading(ESC + "[??", 4, "");
        reading(ESC + "[ ", 4, "");
        reading(ESC + "[:", 4, "");
        reading(ESC + "[<", 4, "");
        reading(ESC + "[1 2;3?Ha", 0, "a");
        reading(ESC + "[1;2;3;4;5;6;7;8", 3, "");
        reading(ESC + "[1;2;3;4;5;6;7;8;", 4, "");
        String texts = "PX]^_";
        for (int i = 0; i < texts.length(); i++) {
            String text = ESC + texts.charAt(i);
            reading(text + "abc\r\n[1m", 5, "");
            reading(text + "abc\u0007d", 0, "d");
            reading(text + "abc\u0018d", 0, "d");
            reading(text + "abc\u001ad", 0, "\u00e1d");
            reading(text + "abc" + ESC + "\\d", 0, "d");
        }
        Check.due("no bell", after(ESC + "]\u0007").state(8), 0);
        reading(ESC + "[1\u0018ma", 0, "ma");
        reading(ESC + "[1\u001ama", 0, "\u00e1ma");
        reading(ESC + "[3" + ESC + "[4", 3, "");
        reading("abc" + ESC + "[\r2Cd", 0, "abd");
        reading(ESC + "\u0007#\u0007\0\u007f\u00806a", 0, "a");
        Check.due("bells within", after(ESC + "\u0007[\u0007 \u0007m" + ESC + "$\u0007").state(8), 4);
        Check.due("controls are done within", after(ESC + "[\n").state(0), 1);
    }

    private static void sequences() {
        cursor(after(ESC + "[00002;0003H"), 1, 2, 0);
        cursor(after(ESC + "[2;3;4;5;6;7;8;9H"), 1, 2, 0);
        cursor(after(ESC + "[2;3;4;5;6;7;8;9;1H"), 0, 0, 0);
        cursor(after("\n\n\n" + ESC + "[?2A" + ESC + "[?H" + ESC + "[?2J"), 3, 0, 0);
        cursor(after("abc" + ESC + "[t" + ESC + "[5z" + ESC + "[~"), 0, 3, 0);
    }

    private static void modes() {
        String[] on = {"[4h", "[20h", "[?1h", "[?5h", "[?6h", "[?7h", "[?8h"};
        int[] bits = {1, 2, 4, 8, 16, 32, 64};
        for (int i = 0; i < on.length; i++) {
            Check.due("on " + on[i], after(ESC + on[i]).state(6), 96 | bits[i]);
            String off = on[i].replace('h', 'l');
            Check.due("off " + off, after(ESC + on[i] + ESC + off).state(6), 96 & ~bits[i]);
        }
        Check.due("KEYPAD", after(ESC + "=").state(6), 224);
        Check.due("no KEYPAD", after(ESC + "=" + ESC + ">").state(6), 96);
        Check.due("many", after(ESC + "[4;20;4h").state(6), 99);
        Check.due("many", after(ESC + "[?1;5;7l" + ESC + "[?1;5h").state(6), 64 + 12);
        Check.due("others", after(ESC + "[1;5;7;8l" + ESC + "[?4;20;2h").state(6), 96);
        Check.due("lamps", after(ESC + "[1q").state(7), 1);
        Check.due("lamps", after(ESC + "[1;4q" + ESC + "[2q").state(7), 11);
        Check.due("lamps", after(ESC + "[1;2;3;4;5;99q").state(7), 15);
        Check.due("lamps", after(ESC + "[1;2;0;3q").state(7), 4);
        Check.due("lamps", after(ESC + "[3q" + ESC + "[q").state(7), 0);
    }

    private static void answer(String text, String want) {
        TerminalHouse house = after(text);
        String shown = text.replace(ESC, "ESC");
        Check.due("answer to " + shown, house.read(300), want.isEmpty() ? -1 : want.length());
        Check.due("answer to " + shown, Check.out(house), want);
    }

    private static void answers() {
        String what = ESC + "[?1;2c";
        answer(ESC + "Z", what);
        answer(ESC + "[c", what);
        answer(ESC + "[0c", what);
        answer(ESC + "[1c", "");
        answer(ESC + "[?c", "");
        answer(ESC + "[5n", ESC + "[0n");
        answer(ESC + "[n", "");
        answer(ESC + "[6n", ESC + "[1;1R");
        answer(to(5, 16) + ESC + "[6n", ESC + "[5;16R");
        answer(to(5, 9) + ESC + "[6n", ESC + "[5;9R");
        answer(to(5, 10) + ESC + "[6n", ESC + "[5;10R");
        answer(ESC + "[2;4r" + ESC + "[?6h" + to(2, 3) + ESC + "[6n", ESC + "[2;3R");
        answer(ESC + "7" + ESC + "[3;4r" + ESC + "[?6h" + ESC + "7" + ESC + "[4;5r" + ESC + "8" + ESC + "[6n",
            ESC + "[1;1R");
        // what has no room wholly is lost: four of seven, one of four
        TerminalHouse house = Check.plainHouse(4, 16);
        Check.does(house, "\u0013" + what.replace("?1;2", "").repeat(5));
        Check.due("answers", house.state(14), 28);
        Check.does(house, ESC + "[5n" + ESC + "[5n");
        Check.due("answers", house.state(14), 32);
        Check.due("no bell", house.state(8), 0);
    }

    private static void resetting() {
        TerminalHouse house = after(letters() + ESC + "#6" + ESC + "[2;4r" + ESC + "[3g" + ESC + "[?5;6h" + ESC
            + "[4;20h" + ESC + "=" + ESC + "[1;7m" + ESC + "(0" + ESC + ")0\u000e\u0007" + ESC + "[2q" + to(3, 3) + ESC
            + "7" + ESC + "c");
        int[] due = {0, 0, 0, 0, 4, 0, 96, 0, 1, 0, 0, 0, 0, 0, 0, 0, 0, 0, -1};
        for (int i = 0; i < due.length; i++) {
            Check.due("state " + i + " behind c", house.state(i), due[i]);
        }
        rows(house, "", "", "", "", "");
        Check.due("width", house.width(2), 0);
        Check.due("stop", house.stop(0, 8), 1);
        Check.does(house, to(4, 4) + ESC + "8a\u000ea");
        rows(house, "aa");
        Check.due("answers stay", after("\u0013" + ESC + "Z" + ESC + "c").state(14), 7);
        Check.due("hushed stays", after("\u0013" + ESC + "c").state(12), 1);
    }
}
