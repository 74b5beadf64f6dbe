/** THE TERMINAL, sentence by sentence: the bounds that the document names (promises 35 to 37 and 39). */
public final class TerminalBoundsTest {
    private static final String ESC = Check.ESC;
    private static final String FULL = "0123456789abcdef";
    private static final String EEEE = "EEEEEEEEEEEEEEEE";
    private static final int LEAST = Integer.MIN_VALUE;
    private static final int MOST = Integer.MAX_VALUE;

    public static void main(String[] args) {
        places();
        atFirst();
        lastColumns();
        columnHeld();
        pendingOff();
        pendingStays();
        signs();
        wrapping();
        wrappingAtMargins();
        inserting();
        indexing();
        backIndexing();
        controls();
        tabs();
        states();
        stateSpoiled();
        escapes();
        aligned();
        rowWidths();
        numbers();
        upAndDown();
        leftAndRight();
        told();
        toldWithOrigin();
        erasing();
        erasedWidths();
        insertedRows();
        rowsOutside();
        cellsMoved();
        cellsOfWideRows();
        attributes();
        margins();
        stopsCleared();
        modes();
        privateModes();
        answers();
        lamps();
        saved();
        resetting();
        Check.finish("TerminalBoundsTest");
    }

    private static TerminalHouse after(String text) {
        return TerminalTest.after(text);
    }

    private static void rows(TerminalHouse house, String... rows) {
        TerminalTest.rows(house, rows);
    }

    private static void cursor(TerminalHouse house, int y, int x, int pending) {
        TerminalTest.cursor(house, y, x, pending);
    }

    private static String to(int row, int column) {
        return TerminalTest.to(row, column);
    }

    private static String letters() {
        return TerminalTest.letters();
    }

    private static String plain(String text) {
        return text.replace(ESC, "ESC");
    }

    private static void places() {
        Check.says("A CELL of the terminal; NONE.");
        TerminalHouse house = after(ESC + "#8" + to(2, 1) + ESC + "#6");
        int[] rows = {LEAST, -1, 0, 4, 5, MOST};
        int[] columns = {LEAST, -1, 0, 15, 16, MOST};
        for (int y : rows) {
            boolean isRow = y >= 0 && y < 5;
            for (int x : columns) {
                boolean isThere = isRow && x >= 0 && x < 16;
                Check.due("screen " + y + " " + x, house.screen(y, x), isThere ? 69 : -1);
                Check.due("stop " + y + " " + x, house.stop(y, x), isThere ? 0 : -1);
            }
            Check.due("width " + y, house.width(y), isRow ? 0 : -1);
        }
        Check.due("width 1", house.width(1), 1);
        Check.due("a CELL behind LAST is there", house.screen(1, 15), 32);
        Check.due("a STOP behind LAST is there", house.stop(1, 8), 1);
        int[] none = {LEAST, -1, 19, 20, 256, MOST};
        for (int what : none) {
            Check.due("state " + what, house.state(what), -1);
            Check.due("count " + what, house.count(what), -1);
        }
    }

    private static void atFirst() {
        Check.says("At first: all BLANK and plain, CURSOR 0, 0, TOP 0, BOTTOM R - 1, STOPS at 8, 16, 24 .., WRAP and REPEAT alone, ATTRIBUTES 0, SETS 0"
            + " and 1 PLAIN, SET 0 in use, lamps off");
        int[][] sizes = {{4, 16}, {5, 18}, {24, 80}};
        for (int[] size : sizes) {
            TerminalHouse house = new TerminalHouse(size[0], size[1], 1);
            for (int x = 0; x < size[1]; x++) {
                Check.due("stop " + x, house.stop(size[0] - 1, x), x > 0 && x % 8 == 0 ? 1 : 0);
            }
            int[] due = {0, 0, 0, 0, size[0] - 1, 0, 96, 0};
            for (int what = 0; what < due.length; what++) {
                Check.due("state " + what, house.state(what), due[what]);
            }
            Check.due("set", house.state(17), 0);
            Check.due("the last cell", house.screen(size[0] - 1, size[1] - 1), 32);
            Check.due("no row behind", house.screen(size[0], 0), -1);
            Check.due("no column behind", house.screen(0, size[1]), -1);
        }
    }

    private static void lastColumns() {
        Check.says("LAST of a row is C - 1, of one that is not plain C / 2 - 1.");
        int[] columns = {16, 17, 18, 19, 78, 80};
        for (int told : columns) {
            int c = told / 2 * 2;
            String[] widths = {"5", "6", "3", "4"};
            for (String width : widths) {
                TerminalHouse house = Check.plainHouse(4, told);
                int last = width.equals("5") ? c - 1 : c / 2 - 1;
                Check.does(house, ESC + "#" + width + "x".repeat(last));
                cursor(house, 0, last, 0);
                Check.does(house, "y");
                cursor(house, 0, last, 1);
                Check.does(house, "z");
                cursor(house, 1, 1, 0);
                Check.due("the last one", house.screen(0, last), 'y');
                Check.due("the next row", house.screen(1, 0), 'z');
            }
        }
    }

    private static void columnHeld() {
        Check.says("CURSOR: row, column (at most LAST of its row, wherever it goes)");
        String wide = to(3, 1) + ESC + "#6";
        cursor(after(wide + to(2, 12) + "\n"), 2, 7, 0);
        cursor(after(wide + to(2, 12) + ESC + "D"), 2, 7, 0);
        cursor(after(wide + to(4, 12) + ESC + "M"), 2, 7, 0);
        cursor(after(wide + to(4, 12) + ESC + "[A"), 2, 7, 0);
        cursor(after(wide + to(2, 12) + ESC + "[B"), 2, 7, 0);
        cursor(after(wide + to(2, 12) + ESC + "[3d"), 2, 7, 0);
        cursor(after(wide + to(3, 12)), 2, 7, 0);
        cursor(after(wide + ESC + "[3;12f"), 2, 7, 0);
        cursor(after(wide + ESC + "[12G"), 2, 7, 0);
        cursor(after(wide + ESC + "[12C"), 2, 7, 0);
        cursor(after(wide + "\t"), 2, 7, 0);
        cursor(after(to(3, 12) + ESC + "7" + wide + to(1, 1) + ESC + "8"), 2, 7, 0);
        cursor(after(to(3, 12) + ESC + "#6"), 2, 7, 0);
        cursor(after(to(3, 12) + ESC + "#3"), 2, 7, 0);
        cursor(after(to(3, 12) + ESC + "#4"), 2, 7, 0);
        cursor(after(to(3, 12) + ESC + "#5"), 2, 11, 0);
        cursor(after(to(3, 8) + ESC + "#6"), 2, 7, 0);
        cursor(after(to(3, 9) + ESC + "#6"), 2, 7, 0);
        // and does not come back where rows are plain again
        cursor(after(wide + to(2, 12) + "\n\n"), 3, 7, 0);
    }

    private static void pendingOff() {
        Check.says("PENDING, which is off whenever row or column are set anew (also to what they are), but as told");
        String[] same = {"[16G", "[1;16H", "[1;16f", "[C", "[99C", "[A", "[9A", "[d", "[1d", "[99;99H" + ESC + "[A" + ESC + "[A" + ESC + "[A" + ESC + "[A",
            "[@", "[P", "[X"};
        for (String s : same) {
            cursor(after(FULL + ESC + s), 0, 15, 0);
        }
        cursor(after(FULL + "\b"), 0, 14, 0);
        cursor(after(FULL + "\r"), 0, 0, 0);
        cursor(after(FULL + "\n"), 1, 15, 0);
        cursor(after(FULL + ESC + "D"), 1, 15, 0);
        cursor(after(FULL + ESC + "E"), 1, 0, 0);
        cursor(after(FULL + ESC + "M"), 0, 15, 0);
        cursor(after(FULL + ESC + "[B"), 1, 15, 0);
        cursor(after(FULL + ESC + "[D"), 0, 14, 0);
        cursor(after(FULL + ESC + "[L"), 0, 0, 0);
        cursor(after(FULL + ESC + "[M"), 0, 0, 0);
        cursor(after(FULL + ESC + "[r"), 0, 0, 0);
        cursor(after(FULL + ESC + "[?6l"), 0, 0, 0);
        cursor(after(FULL + ESC + "7" + ESC + "8"), 0, 15, 0);
        cursor(after(FULL + ESC + "8"), 0, 0, 0);
        cursor(after(FULL + ESC + "#8"), 0, 0, 0);
        cursor(after(FULL + ESC + "c"), 0, 0, 0);
        cursor(after(FULL + ESC + "#6"), 0, 7, 0);
        cursor(after(to(5, 1) + FULL + ESC + "[B"), 4, 15, 0);
        cursor(after(to(5, 1) + FULL + "\n"), 4, 15, 0);
        // off is off: the next byte stays in the row
        rows(after(FULL + ESC + "[16Gx"), "0123456789abcdex", "");
    }

    private static void pendingStays() {
        String[] same = {"\u0007", "\t", "\u000e", "\u000f", "\u0001", "\u0018", "\0", ESC + "7", ESC + "H", ESC + "=", ESC + ">", ESC + "(0", ESC + ")B",
            ESC + "Z", ESC + "[m", ESC + "[4h", ESC + "[20l", ESC + "[?1h", ESC + "[?5h", ESC + "[?8l", ESC + "[?7h", ESC + "[K", ESC + "[1K", ESC + "[2K",
            ESC + "[J", ESC + "[1J", ESC + "[2J", ESC + "[g", ESC + "[3g", ESC + "[6n", ESC + "[c", ESC + "[q", ESC + "[2;1r", ESC + "[9r", ESC + "[y",
            ESC + "[?H", ESC + "#7", ESC + "]x\u0007"};
        for (String s : same) {
            TerminalHouse house = after(FULL + s);
            Check.due("row behind " + plain(s), house.state(0), 0);
            Check.due("column behind " + plain(s), house.state(1), 15);
            Check.due("PENDING behind " + plain(s), house.state(2), 1);
        }
        Check.says("9 the next STOP to the right, LAST without one (PENDING stays, if it is at LAST already)");
        cursor(after(FULL + "\t\t"), 0, 15, 1);
        cursor(after("\t\t\t"), 0, 15, 0);
        // L and M that do nothing set nothing
        cursor(after(ESC + "[2;3r" + FULL + ESC + "[L" + ESC + "[M"), 0, 15, 1);
    }

    private static void signs() {
        Check.says("PRINT a byte: with the SET in use SIGNS, 95 .. 126 are SIGNS (128 more).");
        for (int b = 32; b <= 126; b++) {
            char c = (char) b;
            int sign = b >= 95 ? b + 128 : b;
            Check.due("SET 0 plain", after("" + c).screen(0, 0), b);
            Check.due("SET 0 SIGNS", after(ESC + "(0" + c).screen(0, 0), sign);
            Check.due("SET 1 SIGNS, not in use", after(ESC + ")0" + c).screen(0, 0), b);
            Check.due("SET 1 SIGNS, in use", after(ESC + ")0\u000e" + c).screen(0, 0), sign);
            Check.due("SET 0 SIGNS, not in use", after(ESC + "(0\u000e" + c).screen(0, 0), b);
            Check.due("SET 1 SIGNS, no more in use", after(ESC + ")0\u000e\u000f" + c).screen(0, 0), b);
        }
        Check.says("with ( or ): SET 0, 1: B PLAIN, 0 SIGNS. Others nothing.");
        for (int b = 48; b <= 126; b++) {
            char c = (char) b;
            Check.due("SET 0 behind (" + c, after(ESC + "(" + c + "q").screen(0, 0), b == '0' ? 'q' + 128 : 'q');
            Check.due("SET 0 behind (0 and (" + c, after(ESC + "(0" + ESC + "(" + c + "q").screen(0, 0), b == 'B' ? 'q' : 'q' + 128);
            Check.due("SET 1 behind )" + c, after("\u000e" + ESC + ")" + c + "q").screen(0, 0), b == '0' ? 'q' + 128 : 'q');
            Check.due("SET 1 behind )0 and )" + c, after("\u000e" + ESC + ")0" + ESC + ")" + c + "q").screen(0, 0), b == 'B' ? 'q' : 'q' + 128);
        }
    }

    private static void wrapping() {
        Check.says("If PENDING and WRAP: column 0, INDEX.");
        rows(after(FULL + "x"), FULL, "x");
        rows(after(to(5, 1) + FULL + "x"), "", "", "", FULL, "x");
        rows(after("top" + to(5, 1) + FULL + "x"), "", "", "", FULL, "x");
        Check.says("At LAST: PENDING with WRAP, not without it (the column stays); else one to the right.");
        cursor(after(FULL.substring(1)), 0, 15, 0);
        cursor(after(FULL), 0, 15, 1);
        cursor(after(ESC + "[?7l" + FULL), 0, 15, 0);
        rows(after(ESC + "[?7l" + FULL + "xy"), "0123456789abcdey", "");
        // WRAP goes while PENDING: the byte is printed at LAST, and PENDING goes
        TerminalHouse house = after(FULL + ESC + "[?7l");
        cursor(house, 0, 15, 1);
        Check.does(house, "x");
        cursor(house, 0, 15, 0);
        rows(house, "0123456789abcdex", "");
        // WRAP goes and comes while PENDING
        rows(after(FULL + ESC + "[?7l" + ESC + "[?7hx"), FULL, "x");
    }

    private static void wrappingAtMargins() {
        String set = letters() + ESC + "[2;4r";
        rows(after(set + to(4, 1) + FULL + "x"), "aaaa", "cccc", FULL, "x", "eeee");
        // below the margins the last row is the last: no INDEX, but column 0
        TerminalHouse house = after(set + to(5, 1) + FULL + "x");
        rows(house, "aaaa", "bbbb", "cccc", "dddd", "x123456789abcdef");
        cursor(house, 4, 1, 0);
        // above them it goes on into them
        rows(after(set + to(1, 1) + FULL + "x"), FULL, "xbbb", "cccc", "dddd", "eeee");
        // a wide row
        rows(after(ESC + "#601234567x"), "01234567", "x");
        rows(after("\n" + ESC + "#6" + to(1, 16) + "yx"), "               y", "x");
    }

    private static void inserting() {
        Check.says("With INSERT the CELLS from the CURSOR on go one to the right, up to LAST (the last one is lost).");
        String on = ESC + "[4h";
        rows(after(FULL + to(1, 1) + on + "x"), "x0123456789abcde", "");
        rows(after(FULL + to(1, 15) + on + "x"), "0123456789abcdxe", "");
        TerminalHouse house = after(FULL + to(1, 16) + on + "x");
        rows(house, "0123456789abcdex", "");
        cursor(house, 0, 15, 1);
        rows(after("\nabc" + to(1, 1) + FULL + on + "x"), FULL, "xabc");
        rows(after(ESC + "#601234567" + to(1, 7) + on + "x"), "012345x6");
        rows(after(ESC + "#601234567" + to(1, 8) + on + "x"), "0123456x");
        Check.due("nothing comes behind LAST", after(ESC + "#601234567" + to(1, 1) + on + "xyz").screen(0, 8), 32);
        rows(after(FULL + to(1, 1) + on + ESC + "[4lx"), "x123456789abcdef");
        // with ATTRIBUTES of their own
        house = after(ESC + "[1ma" + to(1, 1) + ESC + "[4;4h" + ESC + "[0;4mb");
        Check.due("b", house.screen(0, 0), 'b' + 512);
        Check.due("a", house.screen(0, 1), 'a' + 256);
    }

    private static void indexing() {
        Check.says("at BOTTOM: the rows TOP .. BOTTOM go one up with their WIDTHS, BOTTOM's becomes BLANK and plain (SCROLLED); else one down, if it is not the"
            + " last row.");
        String[] index = {"\n", "\u000b", "\f", ESC + "D"};
        for (String s : index) {
            TerminalHouse house = after(letters() + to(4, 3) + ESC + "#6" + to(5, 3) + ESC + "#3" + s);
            rows(house, "bbbb", "cccc", "dddd", "eeee", "");
            cursor(house, 4, 2, 0);
            Check.due("widths", "" + house.width(1) + house.width(2) + house.width(3) + house.width(4), "0120");
            rows(after(letters() + to(4, 3) + s), "aaaa", "bbbb", "cccc", "dddd", "eeee");
            cursor(after(to(4, 3) + s), 4, 2, 0);
            String set = letters() + ESC + "[2;3r";
            rows(after(set + to(3, 1) + s), "aaaa", "cccc", "", "dddd", "eeee");
            house = after(set + to(5, 2) + s + s);
            rows(house, "aaaa", "bbbb", "cccc", "dddd", "eeee");
            cursor(house, 4, 1, 0);
            cursor(after(set + to(4, 2) + s), 4, 1, 0);
            cursor(after(set + to(1, 2) + s), 1, 1, 0);
        }
        Check.says("10 11 12 INDEX, with NEWLINE column 0 ahead");
        for (int i = 0; i < 3; i++) {
            cursor(after("abc" + index[i]), 1, 3, 0);
            cursor(after(ESC + "[20habc" + index[i]), 1, 0, 0);
            cursor(after(ESC + "[20h" + to(5, 4) + index[i]), 4, 0, 0);
        }
        cursor(after(ESC + "[20habc" + ESC + "D"), 1, 3, 0);
        cursor(after("abc" + ESC + "E"), 1, 0, 0);
    }

    private static void backIndexing() {
        Check.says("BACK INDEX: at TOP: down likewise, TOP's BLANK (SCROLLED); else one up, if it is not row 0. (The column stays, as far as it can.)");
        String back = ESC + "M";
        TerminalHouse house = after(letters() + to(1, 3) + ESC + "#6" + to(2, 3) + ESC + "#4" + to(1, 3) + back);
        rows(house, "", "aaaa", "bbbb", "cccc", "dddd");
        cursor(house, 0, 2, 0);
        Check.due("widths", "" + house.width(0) + house.width(1) + house.width(2) + house.width(3), "0130");
        cursor(after(letters() + to(2, 3) + back), 0, 2, 0);
        String set = letters() + ESC + "[2;3r";
        rows(after(set + to(2, 1) + back), "aaaa", "", "bbbb", "dddd", "eeee");
        house = after(set + to(1, 2) + back + back);
        rows(house, "aaaa", "bbbb", "cccc", "dddd", "eeee");
        cursor(house, 0, 1, 0);
        cursor(after(set + to(3, 2) + back), 1, 1, 0);
        cursor(after(set + to(4, 2) + back), 2, 1, 0);
        cursor(after(to(1, 1) + ESC + "#6" + to(2, 12) + back), 0, 7, 0);
    }

    private static void controls() {
        Check.says("CONTROLS: 7 a bell; 8 one to the left; 9 the next STOP to the right");
        for (int b = 1; b < 32; b++) {
            if (b == 17 || b == 19 || b == 26 || b == 27) {
                continue;
            }
            TerminalHouse house = after(to(2, 4) + (char) b);
            int row = b >= 10 && b <= 12 ? 2 : 1;
            int column = b == 8 ? 2 : b == 9 ? 8 : b == 13 ? 0 : 3;
            cursor(house, row, column, 0);
            Check.due("bells behind " + b, house.state(8), b == 7 ? 1 : 0);
            Check.due("set behind " + b, house.state(17), b == 14 ? 1 : 0);
            rows(house, "", "", "", "", "");
        }
        cursor(after("\b"), 0, 0, 0);
        cursor(after(to(2, 1) + "\b"), 1, 0, 0);
        cursor(after("\r"), 0, 0, 0);
        Check.due("set", after("\u000e\u000e\u000f").state(17), 0);
    }

    private static void tabs() {
        Check.says("9 the next STOP to the right, LAST without one");
        for (int x = 0; x < 16; x++) {
            cursor(after(ESC + "[" + (x + 1) + "G\t"), 0, x < 8 ? 8 : 15, 0);
        }
        cursor(after(ESC + "[3g\t"), 0, 15, 0);
        cursor(after(ESC + "[16G" + ESC + "H\r\t\t"), 0, 15, 0);
        cursor(after(ESC + "[2G" + ESC + "H\r\t"), 0, 1, 0);
        cursor(after(ESC + "H\t"), 0, 8, 0);
        cursor(after(ESC + "#6\t"), 0, 7, 0);
        cursor(after(ESC + "#6" + ESC + "[8G\t"), 0, 7, 0);
        cursor(after(ESC + "#6" + ESC + "[4G" + ESC + "H\r\t\t"), 0, 7, 0);
        cursor(after(ESC + "#6" + ESC + "[4G" + ESC + "H\r\t"), 0, 3, 0);
        Check.says("H a STOP at the column");
        TerminalHouse house = after(ESC + "H" + to(3, 16) + ESC + "H");
        Check.due("stop 0", house.stop(0, 0), 1);
        Check.due("stop 15", house.stop(4, 15), 1);
        Check.due("stop 8", house.stop(0, 8), 1);
    }

    /** The state that a byte makes of a state. */
    private static int next(int state, boolean isKept, int b) {
        if (b == 24 || b == 26) {
            return 0;
        }
        if (b == 27) {
            return 1;
        }
        if (b < 32 || b > 126) {
            return state == 5 && b == 7 ? 0 : state;
        }
        switch (state) {
            case 1: return b < 48 ? !isKept && "#()".indexOf(b) >= 0 ? 1 : 2 : isKept ? 0 : b == '[' ? 3 : "PX]^_".indexOf(b) >= 0 ? 5 : 0;
            case 2: return b < 48 ? 2 : 0;
            case 3: return b >= 64 ? 0 : b >= '0' && b <= '9' || b == ';' || b == '?' ? 3 : 4;
            case 4: return b < 64 ? 4 : 0;
            default: return state;
        }
    }

    private static void states() {
        Check.says("READING, byte by byte: states PLAIN, ESCAPE, SKIPPED (an escape that is none), SEQUENCE, VOID (a sequence that is none), TEXT.");
        String[] ways = {"", ESC, ESC + "#", ESC + "(", ESC + ")", ESC + " ", ESC + "#(", ESC + "[", ESC + "[ ", ESC + "]"};
        int[] states = {0, 1, 1, 1, 1, 2, 2, 3, 4, 5};
        for (int i = 0; i < ways.length; i++) {
            boolean isKept = ways[i].length() == 2;
            for (int b = 0; b < 256; b++) {
                if (b == 17 || b == 19) {
                    continue;
                }
                TerminalHouse house = after(ways[i] + (char) b);
                Check.due("state behind " + plain(ways[i]) + " and " + b, house.state(15), next(states[i], isKept, b));
                boolean isBell = b == 7 && states[i] != 5;
                Check.due("bells behind " + plain(ways[i]) + " and " + b, house.state(8), isBell ? 1 : 0);
                boolean isPrinted = b == 26 || states[i] == 0 && b > 32 && b <= 126;
                // # 8 makes all of it E
                int cell = b == '8' && ways[i].equals(ESC + "#") ? 69 : isPrinted ? b == 26 ? 225 : b : 32;
                Check.due("cell behind " + plain(ways[i]) + " and " + b, house.screen(0, 0), cell);
            }
        }
        Check.says("digits: the number at hand (0 at first, at most 9999); ; the next number (a ninth: VOID); ? right behind [: PRIVATE; 64 .. 126 ends it:"
            + " PLAIN, it is DONE; others: VOID.");
        for (int b = 32; b <= 63; b++) {
            boolean isOn = b >= '0' && b <= '9' || b == ';';
            String[] behind = {"[1", "[;", "[?", "[?1", "[1;2;3;4;5;6;7;8"};
            for (int i = 0; i < behind.length; i++) {
                boolean isNinth = i == 4 && b == ';';
                Check.due("state behind " + behind[i] + (char) b, after(ESC + behind[i] + (char) b).state(15), isOn && !isNinth ? 3 : 4);
            }
        }
    }

    private static void stateSpoiled() {
        Check.says("In all: 256 (SPOILED): PLAIN, and the SIGN 225 is PRINTED (whatever SET)");
        String[] ways = {"", ESC, ESC + "#", ESC + " ", ESC + "[", ESC + "[1", ESC + "[ ", ESC + "]"};
        String[] sets = {"", ESC + "(0", ESC + ")0\u000e"};
        for (String way : ways) {
            for (String set : sets) {
                TerminalHouse house = after(set + ESC + "[5m" + way);
                Check.write(house, "x");
                house.ticks(1);
                Check.due("spoil", house.spoil(0), true);
                house.ticks(4);
                Check.due("state behind " + plain(way), house.state(15), 0);
                Check.due("SIGN behind " + plain(way), house.screen(0, 0), 225 + 256 * 4);
                cursor(house, 0, 1, 0);
                house = after(set + ESC + "[5m" + way + "\u001a");
                Check.due("SIGN of 26", house.screen(0, 0), 225 + 256 * 4);
                Check.due("state", house.state(15), 0);
            }
        }
        // it is PRINTED as any byte: it wraps, and inserts
        rows(after(FULL + "\u001a"), FULL, "\u00e1");
        rows(after("ab" + to(1, 1) + ESC + "[4h\u001a"), "\u00e1ab");
    }

    private static void escapes() {
        Check.says("48 .. 126 ends it (PLAIN; but [ without one kept: SEQUENCE; P X ] ^ _ without: TEXT)");
        // with one kept an escape is not done as without it
        String[] kept = {"#", "(", ")", " ", "##"};
        for (String k : kept) {
            for (int b = 48; b <= 126; b++) {
                if (k.equals("#") && "34568".indexOf(b) >= 0) {
                    continue;
                }
                TerminalHouse house = after(TerminalTest.letters() + ESC + k + (char) b);
                rows(house, "aaaa", "bbbb", "cccc", "dddd", "eeee");
                cursor(house, 2, 2, 0);
                Check.due("modes", house.state(6), 96);
                Check.due("stop", house.stop(0, 2), 0);
                Check.due("nothing is sent", house.count(12), 0);
                Check.due("state", house.state(15), 0);
            }
        }
        String done = "78DEMHZc=>[PX]^_";
        for (int b = 48; b <= 126; b++) {
            if (done.indexOf(b) < 0) {
                TerminalHouse house = after(TerminalTest.letters() + ESC + (char) b);
                rows(house, "aaaa", "bbbb", "cccc", "dddd", "eeee");
                cursor(house, 2, 2, 0);
                Check.due("modes", house.state(6), 96);
                Check.due("nothing is sent", house.count(12), 0);
            }
        }
        // what one escape kept is no part of the next
        rows(after(ESC + "#" + ESC + "8x"), "x");
        rows(after(ESC + "(" + ESC + "#8"), EEEE, EEEE);
        Check.due("set", after(ESC + "(" + ESC + "0q").screen(0, 0), 'q');
        Check.says("C D n to the right, left; G column n - 1; d row n - 1");
        cursor(after(ESC + "[3" + ESC + "[C"), 0, 1, 0);
    }

    private static void aligned() {
        Check.says("8: all CELLS 69 without ATTRIBUTES, all plain, margins as at first, CURSOR 0, 0");
        TerminalHouse house = after(letters() + ESC + "#6" + to(1, 1) + ESC + "#3" + to(5, 1) + ESC + "#4" + ESC + "[2;3r" + ESC + "[?6h" + ESC + "[5m" + ESC + "#8");
        rows(house, EEEE, EEEE, EEEE, EEEE, EEEE);
        cursor(house, 0, 0, 0);
        for (int y = 0; y < 5; y++) {
            Check.due("width", house.width(y), 0);
            Check.due("without ATTRIBUTES", house.screen(y, 15), 69);
        }
        Check.due("TOP", house.state(3), 0);
        Check.due("BOTTOM", house.state(4), 4);
        Check.due("ATTRIBUTES stay", house.state(5), 4);
        Check.due("ORIGIN stays", house.state(6), 112);
    }

    private static void rowWidths() {
        Check.says("3 4 5 6: the row's WIDTH becomes 2 3 0 1 (of one that is not plain CELLS behind LAST become BLANK)");
        String told = "3456";
        for (int from = 0; from < 4; from++) {
            for (int to = 0; to < 4; to++) {
                TerminalHouse house = after(to(2, 1) + FULL + to(2, 3) + ESC + "#" + told.charAt(from) + ESC + "#" + told.charAt(to));
                Check.due("width", house.width(1), "\2\3\0\1".charAt(to));
                Check.due("the row above", house.width(0), 0);
                Check.due("the row below", house.width(2), 0);
                rows(house, "", from == 2 && to == 2 ? FULL : "01234567", "");
                cursor(house, 1, 2, 0);
            }
        }
        for (int b = 48; b <= 126; b++) {
            if ("34568".indexOf(b) < 0) {
                Check.due("width behind # " + (char) b, after(ESC + "#6" + ESC + "#" + (char) b).width(0), 1);
            }
        }
    }

    private static void numbers() {
        Check.says("digits: the number at hand (0 at first, at most 9999)");
        cursor(after(ESC + "[0000000002;00000000003H"), 1, 2, 0);
        cursor(after(ESC + "[9999;9999H"), 4, 15, 0);
        cursor(after(ESC + "[10000;10000H"), 4, 15, 0);
        cursor(after(ESC + "[4294967298;4294967299H"), 4, 15, 0);
        cursor(after(ESC + "[99999999999999999999;65538H"), 4, 15, 0);
        Check.due("no 4", after(ESC + "[4294967300h").state(6), 96);
        Check.due("no 4", after(ESC + "[65540h").state(6), 96);
        Check.due("no 4", after(ESC + "[260h").state(6), 96);
        Check.due("no 7", after(ESC + "[4294967303m").state(5), 0);
        Check.due("no 0", after(ESC + "[1m" + ESC + "[4294967296m").state(5), 1);
        Check.due("no 0", after(ESC + "[1m" + ESC + "[65536m").state(5), 1);
        Check.due("no 0", after(ESC + "[1m" + ESC + "[256m").state(5), 1);
        Check.says("; the next number (a ninth: VOID)");
        Check.due("eight", after(ESC + "[9;9;9;9;9;9;9;7m").state(5), 8);
        Check.due("eight that are not told", after(ESC + "[1m" + ESC + "[4;;;;;;;m").state(5), 0);
        Check.due("nine", after(ESC + "[1;4;5;7;9;9;9;9;9m").state(5), 0);
        Check.due("nine", after(ESC + "[1;4;5;7;9;9;9;9;mx").screen(0, 0), 'x');
        Check.due("nine, PRIVATE", after(ESC + "[?5;5;5;5;5;5;5;5;5h").state(6), 96);
        Check.due("eight, PRIVATE", after(ESC + "[?9;9;9;9;9;9;9;5h").state(6), 104);
        // each sequence has its own
        cursor(after(ESC + "[3;4H" + ESC + "[H"), 0, 0, 0);
        cursor(after(ESC + "[3;4H" + ESC + "[2H"), 1, 0, 0);
        Check.due("not PRIVATE any more", after(ESC + "[?5h" + ESC + "[4h").state(6), 96 + 8 + 1);
        Check.due("PRIVATE that was broken off", after(ESC + "[?5" + ESC + "[4h").state(6), 97);
    }

    private static void upAndDown() {
        Check.says("A n rows up, TOP being the least from TOP or below, else 0; B down, BOTTOM the most from BOTTOM or above, else R - 1");
        int[] told = {0, 1, 2, 3, 4, 5, 9999};
        for (int from = 1; from <= 5; from++) {
            for (int n : told) {
                int by = Math.max(1, n);
                cursor(after(to(from, 6) + ESC + "[" + n + "A"), Math.max(0, from - 1 - by), 5, 0);
                cursor(after(to(from, 6) + ESC + "[" + n + "B"), Math.min(4, from - 1 + by), 5, 0);
                int least = from >= 2 ? 1 : 0;
                int most = from <= 4 ? 3 : 4;
                cursor(after(ESC + "[2;4r" + to(from, 6) + ESC + "[" + n + "A"), Math.max(least, from - 1 - by), 5, 0);
                cursor(after(ESC + "[2;4r" + to(from, 6) + ESC + "[" + n + "B"), Math.min(most, from - 1 + by), 5, 0);
            }
        }
        cursor(after(to(3, 6) + ESC + "[A"), 1, 5, 0);
        cursor(after(to(3, 6) + ESC + "[B"), 3, 5, 0);
    }

    private static void leftAndRight() {
        Check.says("C D n to the right, left; G column n - 1");
        int[] told = {0, 1, 2, 14, 15, 16, 17, 9999};
        int[] columns = {0, 1, 7, 14, 15};
        for (int n : told) {
            int by = Math.max(1, n);
            for (int x : columns) {
                String here = to(2, x + 1);
                cursor(after(here + ESC + "[" + n + "C"), 1, Math.min(15, x + by), 0);
                cursor(after(here + ESC + "[" + n + "D"), 1, Math.max(0, x - by), 0);
                cursor(after(here + ESC + "[" + n + "G"), 1, Math.min(15, by - 1), 0);
            }
        }
        cursor(after(ESC + "[C"), 0, 1, 0);
        cursor(after(to(1, 5) + ESC + "[D"), 0, 3, 0);
        cursor(after(to(1, 5) + ESC + "[G"), 0, 0, 0);
    }

    private static void told() {
        Check.says("H f row p - 1, column q - 1 (0 as 1): rows with ORIGIN from TOP on, at most BOTTOM (else R - 1).");
        int[] numbers = {0, 1, 2, 4, 5, 6, 9999};
        for (int p : numbers) {
            int row = Math.min(4, Math.max(1, p) - 1);
            cursor(after(to(3, 6) + ESC + "[" + p + "d"), row, 5, 0);
            for (int q : new int[] {0, 1, 15, 16, 17, 9999}) {
                int column = Math.min(15, Math.max(1, q) - 1);
                cursor(after(to(3, 6) + ESC + "[" + p + ";" + q + "H"), row, column, 0);
                cursor(after(to(3, 6) + ESC + "[" + p + ";" + q + "f"), row, column, 0);
            }
            cursor(after(to(3, 6) + ESC + "[" + p + "H"), row, 0, 0);
            cursor(after(to(3, 6) + ESC + "[;" + p + "H"), 0, Math.min(15, Math.max(1, p) - 1), 0);
        }
        cursor(after(to(3, 6) + ESC + "[H"), 0, 0, 0);
        cursor(after(to(3, 6) + ESC + "[f"), 0, 0, 0);
        cursor(after(to(3, 6) + ESC + "[d"), 0, 5, 0);
        cursor(after(ESC + "[2;3;4H"), 1, 2, 0);
    }

    private static void toldWithOrigin() {
        String set = ESC + "[2;4r" + ESC + "[?6h";
        int[] numbers = {0, 1, 2, 3, 4, 5, 9999};
        for (int p : numbers) {
            int row = Math.min(3, Math.max(1, p));
            cursor(after(set + ESC + "[" + p + ";6H"), row, 5, 0);
            cursor(after(set + ESC + "[" + p + ";6f"), row, 5, 0);
            cursor(after(set + "xy" + ESC + "[" + p + "d"), row, 2, 0);
        }
        cursor(after(set + "\n\n\nx" + ESC + "[H"), 1, 0, 0);
        // columns, A and B are as ever
        cursor(after(set + ESC + "[9G"), 1, 8, 0);
        cursor(after(set + ESC + "[9B"), 3, 0, 0);
        cursor(after(set + ESC + "[9A"), 1, 0, 0);
    }

    private static void erased(String here, String told, String... rows) {
        TerminalHouse house = after(ESC + "#8" + here);
        int row = house.state(0);
        int column = house.state(1);
        Check.does(house, ESC + "[7m" + ESC + told);
        rows(house, rows);
        cursor(house, row, column, 0);
    }

    private static void erasing() {
        Check.says("J, with p 0 from the CURSOR to the end, 1 from the beginning to the CURSOR, 2 all: BLANK");
        String tail = " ".repeat(4) + EEEE.substring(4);
        erased(to(3, 4), "[J", EEEE, EEEE, "EEE", "", "");
        erased(to(3, 4), "[0J", EEEE, EEEE, "EEE", "", "");
        erased(to(3, 4), "[1J", "", "", tail, EEEE, EEEE);
        erased(to(3, 4), "[2J", "", "", "", "", "");
        erased(to(3, 4), "[0;1J", EEEE, EEEE, "EEE", "", "");
        erased(to(1, 1), "[J", "", "", "", "", "");
        erased(to(1, 1), "[1J", " EEEEEEEEEEEEEEE", EEEE, EEEE, EEEE, EEEE);
        erased(to(5, 16), "[J", EEEE, EEEE, EEEE, EEEE, "EEEEEEEEEEEEEEE");
        erased(to(5, 16), "[1J", "", "", "", "", "");
        erased(to(3, 4), "[?J", EEEE, EEEE, EEEE, EEEE, EEEE);
        erased(to(3, 4), "[3J", EEEE, EEEE, EEEE, EEEE, EEEE);
        erased(to(3, 4), "[9999J", EEEE, EEEE, EEEE, EEEE, EEEE);
        Check.says("K likewise in its row (which keeps its WIDTH)");
        erased(to(3, 4), "[K", EEEE, EEEE, "EEE", EEEE, EEEE);
        erased(to(3, 4), "[0K", EEEE, EEEE, "EEE", EEEE, EEEE);
        erased(to(3, 4), "[1K", EEEE, EEEE, tail, EEEE, EEEE);
        erased(to(3, 4), "[2K", EEEE, EEEE, "", EEEE, EEEE);
        erased(to(3, 4), "[3K", EEEE, EEEE, EEEE, EEEE, EEEE);
        erased(to(3, 4), "[?2K", EEEE, EEEE, EEEE, EEEE, EEEE);
        erased(to(3, 1), "[K", EEEE, EEEE, "", EEEE, EEEE);
        erased(to(3, 16), "[K", EEEE, EEEE, "EEEEEEEEEEEEEEE", EEEE, EEEE);
        erased(to(3, 16), "[1K", EEEE, EEEE, "", EEEE, EEEE);
        erased(to(3, 1), "[1K", EEEE, EEEE, " EEEEEEEEEEEEEEE", EEEE, EEEE);
        // margins do not hold it
        erased(ESC + "[2;4r" + to(3, 1), "[2J", "", "", "", "", "");
        erased(ESC + "[2;4r" + to(3, 1), "[J", EEEE, EEEE, "", "", "");
    }

    private static void widthsBehind(String told, String due) {
        String wide = "";
        for (int y = 1; y <= 5; y++) {
            wide += to(y, 1) + ESC + "#" + "36436".charAt(y - 1) + "abcdefgh";
        }
        TerminalHouse house = after(wide + told);
        String widths = "";
        for (int y = 0; y < 5; y++) {
            widths += house.width(y);
        }
        Check.due("widths behind " + plain(told), widths, due);
    }

    private static void erasedWidths() {
        Check.says("rows all of whose CELLS 0 .. LAST are so become plain");
        widthsBehind("", "21321");
        widthsBehind(to(3, 1) + ESC + "[J", "21000");
        widthsBehind(to(3, 2) + ESC + "[J", "21300");
        widthsBehind(to(3, 8) + ESC + "[J", "21300");
        widthsBehind(to(3, 8) + ESC + "[1J", "00021");
        widthsBehind(to(3, 7) + ESC + "[1J", "00321");
        widthsBehind(to(3, 1) + ESC + "[1J", "00321");
        widthsBehind(to(3, 4) + ESC + "[2J", "00000");
        widthsBehind(to(1, 1) + ESC + "[J", "00000");
        widthsBehind(to(5, 8) + ESC + "[1J", "00000");
        Check.says("K likewise in its row (which keeps its WIDTH)");
        widthsBehind(to(3, 1) + ESC + "[K", "21321");
        widthsBehind(to(3, 1) + ESC + "[2K", "21321");
        widthsBehind(to(3, 8) + ESC + "[1K", "21321");
    }

    private static void insertedRows() {
        Check.says("L M, if the CURSOR is within the MARGINS: n rows BLANK and plain come in at its row (those below go down, up to BOTTOM), go (those below come"
            + " up, BLANK ones at BOTTOM); column 0.");
        String[] numbers = {"", "0", "1", "2", "3", "4", "9999"};
        String all = "abcde";
        for (String n : numbers) {
            int by = n.isEmpty() ? 1 : Math.max(1, Integer.parseInt(n));
            for (int from = 1; from <= 5; from++) {
                for (int bottom = from == 5 ? 5 : 4; bottom <= 5; bottom++) {
                    String set = letters() + ESC + "[1;" + bottom + "r" + to(from, 3);
                    int blanks = Math.min(by, bottom - from + 1);
                    String in = all.substring(0, from - 1) + " ".repeat(blanks) + all.substring(from - 1, bottom - blanks) + all.substring(bottom);
                    String gone = all.substring(0, from - 1) + all.substring(from - 1 + blanks, bottom) + " ".repeat(blanks) + all.substring(bottom);
                    lettersAre(after(set + ESC + "[" + n + "L"), in, from - 1);
                    lettersAre(after(set + ESC + "[" + n + "M"), gone, from - 1);
                }
            }
        }
        widthsBehind(to(2, 1) + ESC + "[L", "20132");
        widthsBehind(to(2, 1) + ESC + "[2M", "22100");
        widthsBehind(ESC + "[2;4r" + to(3, 1) + ESC + "[L", "21031");
        widthsBehind(ESC + "[2;4r" + to(3, 1) + ESC + "[M", "21201");
    }

    private static void lettersAre(TerminalHouse house, String letters, int row) {
        for (int y = 0; y < 5; y++) {
            char c = letters.charAt(y);
            Check.due("row " + y + " of " + letters, Check.row(house, y), c == ' ' ? "" : String.valueOf(c).repeat(4));
        }
        cursor(house, row, 0, 0);
    }

    private static void rowsOutside() {
        String[] told = {"[L", "[M", "[9L", "[9M"};
        for (String s : told) {
            int[] outside = {1, 5};
            for (int from : outside) {
                TerminalHouse house = after(letters() + ESC + "[2;4r" + to(from, 3) + ESC + s);
                rows(house, "aaaa", "bbbb", "cccc", "dddd", "eeee");
                cursor(house, from - 1, 2, 0);
                Check.due("not BUSY", house.state(10), 0);
            }
        }
        rows(after(letters() + ESC + "[2;4r" + to(2, 3) + ESC + "[L"), "aaaa", "", "bbbb", "cccc", "eeee");
        rows(after(letters() + ESC + "[2;4r" + to(4, 3) + ESC + "[M"), "aaaa", "bbbb", "cccc", "", "eeee");
    }

    private static void cellsMoved() {
        Check.says("@ P: n BLANK come in at the CURSOR (up to LAST), go (BLANK ones at LAST); X: n become BLANK from the CURSOR on (up to LAST); these three put"
            + " PENDING off.");
        String[] numbers = {"", "0", "1", "2", "11", "12", "13", "9999"};
        for (String n : numbers) {
            int by = n.isEmpty() ? 1 : Math.max(1, Integer.parseInt(n));
            for (int x = 0; x < 16; x += 5) {
                int blanks = Math.min(by, 16 - x);
                String gap = " ".repeat(blanks);
                String ahead = FULL.substring(0, x);
                String here = "top\r\n" + FULL + "\r\nend" + to(2, x + 1) + ESC + "[7m";
                cellsAre(here + ESC + "[" + n + "@", ahead + gap + FULL.substring(x, 16 - blanks), x);
                cellsAre(here + ESC + "[" + n + "P", ahead + FULL.substring(x + blanks) + gap, x);
                cellsAre(here + ESC + "[" + n + "X", ahead + gap + FULL.substring(x + blanks), x);
            }
        }
        Check.due("BLANK without ATTRIBUTES", after(FULL + to(1, 1) + ESC + "[7m" + ESC + "[@").screen(0, 0), 32);
    }

    private static void cellsAre(String text, String row, int column) {
        TerminalHouse house = after(text);
        String shown = Check.row(house, 1);
        Check.due("row behind " + plain(text), shown + " ".repeat(16 - shown.length()), row);
        rows(house, "top");
        Check.due("the row below", Check.row(house, 2), "end");
        cursor(house, 1, column, 0);
    }

    private static void cellsOfWideRows() {
        String wide = ESC + "#601234567";
        rows(after(wide + to(1, 3) + ESC + "[2@"), "01  2345");
        rows(after(wide + to(1, 3) + ESC + "[9@"), "01");
        rows(after(wide + to(1, 8) + ESC + "[@"), "0123456");
        rows(after(wide + to(1, 3) + ESC + "[2P"), "014567");
        rows(after(wide + to(1, 3) + ESC + "[9P"), "01");
        rows(after(wide + to(1, 3) + ESC + "[2X"), "01  4567");
        rows(after(wide + to(1, 3) + ESC + "[9X"), "01");
        Check.due("nothing comes behind LAST", after(wide + to(1, 1) + ESC + "[3@").screen(0, 8), 32);
    }

    private static void attributes() {
        Check.says("m: for each number: 0 no ATTRIBUTES, 1 4 5 7 bold, underlined, blinking, reversed, 22 24 25 27 not.");
        int[] on = {1, 4, 5, 7};
        int[] off = {22, 24, 25, 27};
        for (int n = 0; n <= 60; n++) {
            int fromNone = 0;
            int fromAll = n == 0 ? 0 : 15;
            for (int i = 0; i < 4; i++) {
                fromNone |= n == on[i] ? 1 << i : 0;
                fromAll &= n == off[i] ? ~(1 << i) : 15;
            }
            Check.due("from none, " + n, after(ESC + "[" + n + "m").state(5), fromNone);
            Check.due("from all, " + n, after(ESC + "[1;4;5;7m" + ESC + "[" + n + "m").state(5), fromAll);
        }
        Check.due("nothing is told", after(ESC + "[1;4;5;7m" + ESC + "[m").state(5), 0);
        Check.due("in their order", after(ESC + "[1;0;4;24;5;7m").state(5), 12);
        Check.due("not told is 0", after(ESC + "[1;4;;7m").state(5), 8);
        Check.due("the last is not told", after(ESC + "[1;4;m").state(5), 0);
        Check.due("PRIVATE", after(ESC + "[?1m").state(5), 0);
    }

    private static void margins() {
        Check.says("r: from p (1 for 0) to q (R for 0): if p < q <= R: MARGINS, and the CURSOR is 0 0 (with ORIGIN: TOP, 0).");
        for (int p = 0; p <= 7; p++) {
            for (int q = 0; q <= 7; q++) {
                int first = Math.max(1, p);
                int last = q == 0 ? 5 : q;
                boolean isSet = first < last && last <= 5;
                TerminalHouse house = after(ESC + "[2;4r" + to(3, 3) + ESC + "[" + p + ";" + q + "r");
                Check.due("TOP of " + p + " " + q, house.state(3), isSet ? first - 1 : 1);
                Check.due("BOTTOM of " + p + " " + q, house.state(4), isSet ? last - 1 : 3);
                cursor(house, isSet ? 0 : 2, isSet ? 0 : 2, 0);
                house = after(ESC + "[?6h" + to(3, 3) + ESC + "[" + p + ";" + q + "r");
                cursor(house, isSet ? first - 1 : 2, isSet ? 0 : 2, 0);
            }
        }
        TerminalHouse house = after(ESC + "[2;4r" + ESC + "[r");
        Check.due("TOP", house.state(3), 0);
        Check.due("BOTTOM", house.state(4), 4);
        Check.due("q alone", after(ESC + "[;3r").state(4), 2);
        Check.due("p alone", after(ESC + "[3r").state(3), 2);
        Check.due("too great", after(ESC + "[2;9999r").state(3), 0);
        Check.due("PRIVATE", after(ESC + "[?2;3r").state(3), 0);
        house = Check.plainHouse(24, 80);
        Check.does(house, ESC + "[23;24r");
        Check.due("TOP", house.state(3), 22);
        Check.due("BOTTOM", house.state(4), 23);
        Check.does(house, ESC + "[24;25r" + ESC + "[24;24r");
        Check.due("TOP", house.state(3), 22);
    }

    private static void stopsCleared() {
        Check.says("g: 0 no STOP at the column, 3 none at all.");
        for (int n = 0; n <= 5; n++) {
            TerminalHouse house = after(ESC + "H" + to(1, 16) + ESC + "H" + to(2, 9) + ESC + "[" + n + "g");
            int others = n == 3 ? 0 : 1;
            Check.due("stop 0 behind " + n, house.stop(0, 0), others);
            Check.due("stop 8 behind " + n, house.stop(0, 8), n == 0 ? 0 : others);
            Check.due("stop 15 behind " + n, house.stop(4, 15), others);
        }
        Check.due("nothing is told", after(to(1, 9) + ESC + "[g").stop(0, 8), 0);
        Check.due("another column", after(to(1, 8) + ESC + "[g").stop(0, 8), 1);
        Check.due("PRIVATE", after(ESC + "[?3g").stop(0, 8), 1);
    }

    private static void modes() {
        Check.says("h l: for each number 4 INSERT, 20 NEWLINE on, off.");
        for (int n = 0; n <= 30; n++) {
            int bit = n == 4 ? 1 : n == 20 ? 2 : 0;
            Check.due("on " + n, after(ESC + "[" + n + "h").state(6), 96 | bit);
            Check.due("off " + n, after(ESC + "[4;20h" + ESC + "[" + n + "l").state(6), 99 & ~bit);
        }
        Check.due("several", after(ESC + "[20;1;4h").state(6), 99);
        Check.due("several", after(ESC + "[20;1;4h" + ESC + "[4;20l").state(6), 96);
        Check.due("KEYPAD", after(ESC + "=" + ESC + "=").state(6), 224);
        Check.due("not", after(ESC + "=" + ESC + ">" + ESC + ">").state(6), 96);
    }

    private static void privateModes() {
        Check.says("PRIVATE: h l alone: 1 CURSOR KEYS, 5 REVERSED, 6 ORIGIN (the CURSOR goes to 0 0, or TOP, 0), 7 WRAP, 8 REPEAT. Others nothing.");
        int[] numbers = {1, 5, 6, 7, 8};
        int[] bits = {4, 8, 16, 32, 64};
        for (int n = 0; n <= 30; n++) {
            int bit = 0;
            for (int i = 0; i < 5; i++) {
                bit |= n == numbers[i] ? bits[i] : 0;
            }
            TerminalHouse house = after(ESC + "[2;4r" + to(3, 3) + ESC + "[?" + n + "h");
            Check.due("on " + n, house.state(6), 96 | bit);
            cursor(house, n == 6 ? 1 : 2, n == 6 ? 0 : 2, 0);
            house = after(ESC + "[2;4r" + ESC + "[?1;5;6;7;8h" + ESC + "[2;3H" + ESC + "[?" + n + "l");
            Check.due("off " + n, house.state(6), 124 & ~bit);
            cursor(house, n == 6 ? 0 : 2, n == 6 ? 0 : 2, 0);
        }
        for (int b = 64; b <= 126; b++) {
            if (b != 'h' && b != 'l') {
                TerminalHouse house = after(letters() + ESC + "[?1;5;2" + (char) b);
                rows(house, "aaaa", "bbbb", "cccc", "dddd", "eeee");
                cursor(house, 2, 2, 0);
                Check.due("modes", house.state(6), 96);
                Check.due("attributes", house.state(5), 0);
                Check.due("lamps", house.state(7), 0);
                Check.due("nothing is sent", house.count(12), 0);
            }
        }
        String done = "ABCDGdHfJKLM@PXmrghlcnq";
        for (int b = 64; b <= 126; b++) {
            if (done.indexOf(b) < 0) {
                TerminalHouse house = after(letters() + ESC + "[2;1" + (char) b);
                rows(house, "aaaa", "bbbb", "cccc", "dddd", "eeee");
                cursor(house, 2, 2, 0);
            }
        }
    }

    private static void answered(String text, String want) {
        TerminalHouse house = after(text);
        Check.due("answer to " + plain(text), house.read(300), want.isEmpty() ? -1 : want.length());
        Check.due("answer to " + plain(text), Check.out(house), want);
    }

    private static void answers() {
        Check.says("c, p 0: as Z. n: 5 ANSWER ESC [ 0 n; 6 ESC [ row ; column R (from 1 on, with ORIGIN rows from TOP, 1 above it, too).");
        String what = ESC + "[?1;2c";
        for (int n = 0; n <= 10; n++) {
            answered(ESC + "[" + n + "c", n == 0 ? what : "");
            answered(ESC + "[" + n + "n", n == 5 ? ESC + "[0n" : n == 6 ? ESC + "[1;1R" : "");
        }
        answered(ESC + "Z", what);
        answered(ESC + "[c", what);
        answered(ESC + "[n", "");
        answered(ESC + "[?5n", "");
        answered(ESC + "[5;6n", ESC + "[0n");
        answered(FULL + ESC + "[6n", ESC + "[1;16R");
        answered(to(5, 9) + ESC + "[6n", ESC + "[5;9R");
        answered(to(5, 10) + ESC + "[6n", ESC + "[5;10R");
        TerminalHouse house = Check.plainHouse(24, 80);
        Check.does(house, to(24, 80) + ESC + "[6n" + to(9, 79) + ESC + "[6n" + to(10, 1) + ESC + "[6n" + to(19, 69) + ESC + "[6n");
        Check.due("read", house.read(300), 8 + 7 + 7 + 8);
        Check.due("out", Check.out(house), ESC + "[24;80R" + ESC + "[9;79R" + ESC + "[10;1R" + ESC + "[19;69R");
        String origin = ESC + "[3;5r" + ESC + "[?6h";
        answered(origin + ESC + "[6n", ESC + "[1;1R");
        answered(origin + to(3, 4) + ESC + "[6n", ESC + "[3;4R");
        // above TOP: SAVED has ORIGIN and row 0 there
        String above = ESC + "[?6h" + ESC + "7" + ESC + "[3;5r" + ESC + "8";
        cursor(after(above), 0, 0, 0);
        answered(above + ESC + "[6n", ESC + "[1;1R");
        answered(above + "\n" + ESC + "[6n", ESC + "[1;1R");
        answered(above + "\n\n" + ESC + "[6n", ESC + "[1;1R");
        answered(above + "\n\n\n" + ESC + "[6n", ESC + "[2;1R");
    }

    private static void lamps() {
        Check.says("q: for each number 0 all lamps off, 1 .. 4 that one on.");
        for (int n = 0; n <= 40; n++) {
            boolean isLamp = n >= 1 && n <= 4;
            Check.due("lamp " + n, after(ESC + "[" + n + "q").state(7), isLamp ? 1 << n - 1 : 0);
            Check.due("from all, " + n, after(ESC + "[1;2;3;4q" + ESC + "[" + n + "q").state(7), n == 0 ? 0 : 15);
        }
        Check.due("in their order", after(ESC + "[1;2;0;4;9q").state(7), 8);
        Check.due("nothing is told", after(ESC + "[1;2q" + ESC + "[q").state(7), 0);
    }

    private static void saved() {
        Check.says("SAVED is this row and column, ATTRIBUTES, SETS, SET in use, and ORIGIN off.");
        String changed = to(4, 4) + ESC + "[1m" + ESC + "(0" + ESC + ")0\u000e" + ESC + "[2;4r" + ESC + "[?6h";
        TerminalHouse house = after(changed + ESC + "8q\u000eq");
        cursor(house, 0, 2, 0);
        Check.due("ATTRIBUTES", house.state(5), 0);
        Check.due("SET 0 PLAIN", house.screen(0, 0), 'q');
        Check.due("SET 1 PLAIN", house.screen(0, 1), 'q');
        Check.due("ORIGIN off", house.state(6), 96);
        Check.due("MARGINS stay", house.state(3), 1);
        Check.due("SET 0 in use", after(changed + ESC + "8").state(17), 0);
        // each of SETS by itself, and the SET in use
        String[] sets = {"", "(0", ")0", "(0" + ESC + ")0"};
        for (int i = 0; i < 4; i++) {
            for (int use = 0; use < 2; use++) {
                String set = (i == 0 ? "" : ESC + sets[i]) + (use == 0 ? "\u000f" : "\u000e");
                String others = ESC + ((i & 1) == 0 ? "(0" : "(B") + ESC + ((i & 2) == 0 ? ")0" : ")B") + (use == 0 ? "\u000e" : "\u000f") + ESC + "[1;5m";
                house = after(set + ESC + "[4;7m" + to(2, 2) + ESC + "7" + others + to(5, 5) + ESC + "8");
                cursor(house, 1, 1, 0);
                Check.due("SET in use", house.state(17), use);
                Check.due("ATTRIBUTES", house.state(5), 10);
                Check.does(house, "\u000fq\u000eq");
                Check.due("SET 0", house.screen(1, 1), 'q' + ((i & 1) != 0 ? 128 : 0) + 2560);
                Check.due("SET 1", house.screen(1, 2), 'q' + ((i & 2) != 0 ? 128 : 0) + 2560);
            }
        }
        // SAVED stays, and ORIGIN comes and goes with it
        cursor(after(to(2, 2) + ESC + "7" + to(4, 4) + ESC + "8" + to(5, 5) + ESC + "8"), 1, 1, 0);
        Check.due("ORIGIN on", after(ESC + "[?6h" + ESC + "7" + ESC + "[?6l" + ESC + "8").state(6), 112);
        Check.due("ORIGIN off", after(ESC + "7" + ESC + "[?6h" + ESC + "8").state(6), 96);
        // the other modes are not SAVED
        Check.due("modes", after(ESC + "7" + ESC + "[4;20h" + ESC + "[?1;5h" + ESC + "[?7l" + ESC + "=" + ESC + "8").state(6), 128 + 64 + 15);
        Check.due("stops", after(ESC + "7" + ESC + "[3g" + ESC + "8").stop(0, 8), 0);
        Check.due("lamps", after(ESC + "7" + ESC + "[1q" + ESC + "8").state(7), 1);
        // a row that is there still, though the MARGINS are elsewhere
        cursor(after(to(5, 5) + ESC + "7" + ESC + "[1;2r" + ESC + "8"), 4, 4, 0);
    }

    private static void resetting() {
        Check.says("(Also by c; what is in THE SILO, ANSWERS, HELD, HUSHED, keys and the bells stay.)");
        String changed = ESC + "#8" + to(1, 1) + ESC + "#6" + to(5, 1) + ESC + "#3" + ESC + "[2;4r" + ESC + "[3g" + ESC + "[4;20h" + ESC + "[?1;5;6h" + ESC + "[?7;8l"
            + ESC + "=" + ESC + "[1;4;5;7m" + ESC + "(0" + ESC + ")0\u000e" + ESC + "[1;4q" + to(3, 3) + ESC + "7\u0007\u0007";
        TerminalHouse house = after(changed + ESC + "c");
        rows(house, "", "", "", "", "");
        int[] due = {0, 0, 0, 0, 4, 0, 96, 0, 2, 0, 0, 0, 0, 0, 0, 0, 0, 0, -1};
        for (int what = 0; what < due.length; what++) {
            Check.due("state " + what, house.state(what), due[what]);
        }
        for (int y = 0; y < 5; y++) {
            Check.due("width", house.width(y), 0);
        }
        for (int x = 0; x < 16; x++) {
            Check.due("stop", house.stop(0, x), x == 8 ? 1 : 0);
        }
        Check.does(house, "q\u000eq" + to(4, 4) + ESC + "8");
        Check.due("SET 0 PLAIN", house.screen(0, 0), 'q');
        Check.due("SET 1 PLAIN", house.screen(0, 1), 'q');
        cursor(house, 0, 0, 0);
        Check.due("ANSWERS stay", after("\u0013" + ESC + "[5n" + ESC + "c").state(14), 4);
        Check.due("HUSHED stays", after("\u0013" + ESC + "c").state(12), 1);
        // keys: what is down, and what repeats
        house = Check.plainHouse(4, 16);
        house.key('a', true);
        house.ticks(4);
        Check.write(house, ESC + "c");
        house.ticks(8);
        Check.due("it repeats still", house.state(18), 'a');
        Check.due("struck once", house.count(12), 1);
        // THE SILO: what is behind c is done
        house = after("x" + ESC + "cyz");
        rows(house, "yz", "");
    }
}
