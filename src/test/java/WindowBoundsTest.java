/** WINDOWS, sentence by sentence: the bounds that the document names (promises 7, 8 and 11 to 24). */
public final class WindowBoundsTest {
    private static final int LEAST = Integer.MIN_VALUE;
    private static final int MOST = Integer.MAX_VALUE;

    public static void main(String[] args) {
        usable();
        usedAgain();
        emptied();
        places();
        numbers();
        refusedWindows();
        cursors();
        dresses();
        everyByte();
        lastCells();
        oneCell();
        lineBreaks();
        tabs();
        bells();
        erasing();
        rowsAndRolls();
        cells();
        boxes();
        looking();
        showing();
        greatest();
        Check.finish("WindowBoundsTest");
    }

    private static TerminalHouse house(int lines, int columns) {
        return WindowsTest.house(lines, columns);
    }

    private static void rowsAre(TerminalHouse house, int window, String... rows) {
        WindowsTest.rowsAre(house, window, rows);
    }

    private static void cursorIs(TerminalHouse house, int window, int y, int x) {
        WindowsTest.cursorIs(house, window, y, x);
    }

    private static void used(String fields, int want) {
        TerminalHouse house = new TerminalHouse(4, 16, 1);
        Check.due("describe", Check.describe(house, "t,\n " + fields + "\n"), 1);
        Check.due("use with " + fields, Check.use(house, "t"), want);
        Check.due("the tape is empty", house.count(13), 0);
        Check.due("whether a screen is there", house.count(2) > 0 && house.count(3) > 0, want == 0);
    }

    private static void usable() {
        Check.says("USE of a type (an ENTRY, by any NAME): its cols must be 4 .. 80, lines 2 .. 24, and it must have clear and"
            + " cup.");
        int[] columns = {0, 1, 3, 4, 5, 79, 80, 81, 260, 32767};
        for (int n : columns) {
            used("cols#" + n + ", lines#2, clear=, cup=,", n >= 4 && n <= 80 ? 0 : -2);
        }
        int[] lines = {0, 1, 2, 3, 23, 24, 25, 258, 32767};
        for (int n : lines) {
            used("cols#4, lines#" + n + ", clear=, cup=,", n >= 2 && n <= 24 ? 0 : -2);
        }
        used("lines#4, clear=, cup=,", -2);
        used("cols#16, clear=, cup=,", -2);
        used("cols#16, lines#4, cup=,", -2);
        used("cols#16, lines#4, clear=,", -2);
        used("cols@, lines#4, clear=, cup=,", -2);
        used("cols#16, lines#4, clear=, cup@,", -2);
        Check.says("The program's screen has L = lines rows of W = cols CELLS then.");
        int[][] sizes = {{2, 4}, {24, 80}, {3, 79}};
        for (int[] size : sizes) {
            TerminalHouse house = house(size[0], size[1]);
            Check.due("L", house.count(2), size[0]);
            Check.due("W", house.count(3), size[1]);
            Check.due("the last cell", house.wanted(size[0] - 1, size[1] - 1), 32);
            Check.due("no row behind", house.wanted(size[0], 0), -1);
            Check.due("no column behind", house.wanted(0, size[1]), -1);
        }
    }

    private static void usedAgain() {
        Check.says("NONE: there is none such; -2: it can't be (with both what was in use stays, and WINDOWS).");
        TerminalHouse house = new TerminalHouse(4, 16, 1);
        Check.describe(house, "t|u,\n cols#16, lines#4, clear=, cup=, bel=B,\nv,\n use=t, cols#3,\nw,\n use=t, cols#20,\n");
        Check.use(house, "t");
        house.open(1, 2, 2, 3);
        Check.say(house, 0, "ab\u0007");
        house.show(0);
        String[] names = {"v", "x", "", "t ", "T", "tt"};
        for (String name : names) {
            Check.due("use of " + name, Check.use(house, name), name.equals("v") ? -2 : -1);
            Check.due("W", house.count(3), 16);
            Check.due("windows", house.count(4), 1);
            Check.due("what is said", house.look(0, 0, 1), 'b');
            Check.due("what is wanted", house.wanted(1, 3), 'b');
        }
        Check.due("the bell is wanted still: B, a b at their place", house.update() > 2, true);
        Check.due("known", house.known(1, 2), 'a');
        Check.say(house, 0, "\u0007");
        Check.says("With 0 all WINDOWS are closed, no BELL is wanted.");
        Check.due("use once more", Check.use(house, "u"), 0);
        Check.due("windows", house.count(4), 0);
        Check.due("no window", house.look(0, 0, 0), -1);
        Check.due("wanted is blank", house.wanted(1, 2), 32);
        Check.due("known is strange", house.known(1, 2), -1);
        Check.due("no bell", house.update(), 0);
        house.open(0, 0, 1, 1);
        Check.due("use of another", Check.use(house, "w"), 0);
        Check.due("W", house.count(3), 20);
        Check.due("windows", house.count(4), 0);
    }

    private static void emptied() {
        Check.says("All ENTRIES go; no type is in use, there are no WINDOWS.");
        TerminalHouse house = house(4, 16);
        house.open(0, 0, 2, 2);
        house.update();
        Check.due("known", house.known(0, 0), 32);
        house.empty();
        int[] none = {1, 2, 3, 4, 14};
        for (int what : none) {
            Check.due("count " + what, house.count(what), 0);
        }
        Check.due("row", house.count(15), -1);
        Check.due("column", house.count(16), -1);
        Check.due("look", house.look(0, 0, 0), -1);
        Check.due("close", house.close(0), false);
        Check.due("open", house.open(0, 0, 1, 1), -1);
        Check.due("update", house.update(), -1);
        Check.due("redraw", house.redraw(), false);
        Check.due("known", house.known(0, 0), -1);
        Check.due("wanted", house.wanted(0, 0), -1);
        Check.due("ability", Check.ability(house, "cols"), -1);
        Check.due("use", Check.use(house, "t"), -1);
        house.empty();
        Check.due("describe", Check.describe(house, "t,\n cols#4, lines#2, clear=, cup=,\n"), 1);
        Check.due("use", Check.use(house, "t"), 0);
        Check.due("open", house.open(0, 0, 2, 4), 0);
    }

    private static void places() {
        Check.says("NONE if no type is in use, it is not wholly on it, h or w is below 1, or there are 8.");
        int[] rows = {LEAST, -1, 0, 1, 3, 4, MOST};
        int[] columns = {LEAST, -1, 0, 1, 15, 16, MOST};
        int[] heights = {LEAST, -1, 0, 1, 3, 4, 5, MOST};
        int[] breadths = {0, 1, 15, 16, 17, MOST};
        for (int y : rows) {
            for (int x : columns) {
                TerminalHouse house = house(4, 16);
                for (int h : heights) {
                    for (int w : breadths) {
                        boolean isOn = y >= 0 && x >= 0 && h >= 1 && w >= 1 && (long) y + h <= 4 && (long) x + w <= 16;
                        Check.due("open " + y + " " + x + " " + h + " " + w, house.open(y, x, h, w), isOn ? 0 : -1);
                        if (isOn) {
                            Check.due("close", house.close(0), true);
                        }
                    }
                }
                Check.due("windows", house.count(4), 0);
            }
        }
        Check.due("without a type", new TerminalHouse(4, 16, 1).open(0, 0, 1, 1), -1);
    }

    private static void numbers() {
        Check.says("WINDOWS, at most 8, have numbers 0 .. 7, the lowest that is free is given; each has a place, rows and columns"
            + " wholly on the screen, CELLS (BLANK at first), a CURSOR (0, 0), ATTRIBUTES (0), and SCROLLS or not (not).");
        TerminalHouse house = house(4, 16);
        for (int i = 0; i < 8; i++) {
            Check.due("open", house.open(i % 4, i, 1, 2), i);
            house.dress(i, 5);
            house.scrolls(i, true);
            Check.say(house, i, "x");
        }
        Check.due("a ninth", house.open(0, 0, 1, 1), -1);
        Check.due("windows", house.count(4), 8);
        Check.due("close 7", house.close(7), true);
        Check.due("close 5", house.close(5), true);
        Check.due("close 2", house.close(2), true);
        int[] given = {2, 5, 7, -1};
        for (int i : given) {
            Check.due("open", house.open(2, 3, 2, 4), i);
        }
        int[] told = {2, 3, 2, 4, 0, 0, 0, 0};
        for (int what = 0; what < 8; what++) {
            Check.due("where " + what, house.where(5, what), told[what]);
        }
        rowsAre(house, 5, "....", "....");
        int[] others = {8, -1, LEAST, MOST};
        for (int what : others) {
            Check.due("where " + what, house.where(5, what), -1);
        }
    }

    /** A house with one window, number 3 (those below it are closed again), that says "abc". */
    private static TerminalHouse third() {
        TerminalHouse house = house(4, 16);
        for (int i = 0; i < 4; i++) {
            house.open(0, 0, 2, 4);
        }
        for (int i = 0; i < 3; i++) {
            house.close(i);
        }
        Check.say(house, 3, "abc");
        return house;
    }

    private static void refusedWindows() {
        Check.says("The WINDOW goes (what was SHOWN stays): true; false if there is none such (so everywhere below, or NONE).");
        TerminalHouse house = third();
        int[] wrong = {LEAST, -1, 0, 2, 4, 7, 8, 256 + 3, MOST};
        for (int w : wrong) {
            Check.due("close", house.close(w), false);
            Check.due("at", house.at(w, 1, 1), false);
            Check.due("dress", house.dress(w, 1), false);
            Check.due("scrolls", house.scrolls(w, true), false);
            Check.due("say", Check.say(house, w, "x"), -1);
            Check.due("the tape is empty", house.count(13), 0);
            Check.due("erase", house.erase(w, 0), false);
            Check.due("rows", house.rows(w, 1), false);
            Check.due("cells", house.cells(w, 1), false);
            Check.due("roll", house.roll(w, 1), false);
            Check.due("box", house.box(w), false);
            Check.due("look", house.look(w, 0, 0), -1);
            Check.due("where", house.where(w, 2), -1);
            Check.due("show", house.show(w), -1);
        }
        rowsAre(house, 3, "abc.", "....");
        cursorIs(house, 3, 0, 3);
        Check.due("show", house.show(3), 3);
        Check.due("close", house.close(3), true);
        Check.due("what was SHOWN stays", house.wanted(0, 2), 'c');
        Check.due("close again", house.close(3), false);
        Check.due("windows", house.count(4), 0);
    }

    private static void cursors() {
        Check.says("Its CURSOR is there; false also if that is not in it.");
        TerminalHouse house = house(4, 16);
        house.open(1, 3, 2, 5);
        int[] rows = {LEAST, -1, 0, 1, 2, 3, MOST};
        int[] columns = {LEAST, -1, 0, 4, 5, 15, MOST};
        int row = 0;
        int column = 0;
        for (int y : rows) {
            for (int x : columns) {
                boolean isIn = y >= 0 && y < 2 && x >= 0 && x < 5;
                Check.due("at " + y + " " + x, house.at(0, y, x), isIn);
                row = isIn ? y : row;
                column = isIn ? x : column;
                cursorIs(house, 0, row, column);
            }
        }
    }

    private static void dresses() {
        Check.says("Its ATTRIBUTES from now on, 0 .. 15.");
        TerminalHouse house = house(4, 24);
        house.open(0, 0, 1, 24);
        for (int a = 0; a < 16; a++) {
            Check.due("dress " + a, house.dress(0, a), true);
            Check.due("attributes", house.where(0, 6), a);
            Check.say(house, 0, "x");
        }
        int[] wrong = {LEAST, -1, 16, 17, 256, MOST};
        for (int a : wrong) {
            Check.due("dress " + a, house.dress(0, a), false);
            Check.due("attributes", house.where(0, 6), 15);
        }
        for (int a = 0; a < 16; a++) {
            Check.due("what was said before keeps its own", house.look(0, 0, a), 'x' + 256 * a);
        }
    }

    private static void everyByte() {
        Check.says("SAYING bytes: 32 .. 126: the CELL at the CURSOR has it with the WINDOW's ATTRIBUTES; the CURSOR goes one to the"
            + " right");
        for (int b = 0; b < 256; b++) {
            TerminalHouse house = house(4, 16);
            house.open(0, 0, 3, 5);
            Check.say(house, 0, "abcdefghijklmn");
            house.at(0, 1, 1);
            Check.due("say " + b, Check.say(house, 0, String.valueOf((char) b)), 1);
            String row = "fghij";
            int y = 1;
            int x = 1;
            if (b == 9 || b == 10) {
                row = "f....";
                y = 2;
                x = 0;
            } else if (b == 8 || b == 13) {
                x = 0;
            } else if (b >= 32 && b <= 126) {
                row = "f" + (b == 32 ? '.' : (char) b) + "hij";
                x = 2;
            }
            rowsAre(house, 0, "abcde", row, "klmn.");
            cursorIs(house, 0, y, x);
        }
        Check.says("8: one to the left, if there is one.");
        TerminalHouse house = house(4, 16);
        house.open(0, 0, 3, 5);
        house.at(0, 1, 0);
        Check.due("said", Check.say(house, 0, "\b\b"), 2);
        cursorIs(house, 0, 1, 0);
        house.at(0, 1, 4);
        Check.say(house, 0, "\b\b\b");
        cursorIs(house, 0, 1, 1);
    }

    private static void lastCells() {
        Check.says("from the last column to the first of the next row: if it was in the last row: if the WINDOW SCROLLS all rows go"
            + " one up, the last one BLANK, and it stays in that row; else it stays where it was, and what is behind is not said.");
        TerminalHouse house = house(4, 16);
        house.open(0, 0, 2, 3);
        Check.due("to the last column", Check.say(house, 0, "ab"), 2);
        cursorIs(house, 0, 0, 2);
        Check.due("to the next row", Check.say(house, 0, "c"), 1);
        cursorIs(house, 0, 1, 0);
        Check.due("to the last cell", Check.say(house, 0, "defgh\u0007\r"), 3);
        rowsAre(house, 0, "abc", "def");
        cursorIs(house, 0, 1, 2);
        Check.due("there again", Check.say(house, 0, "xy"), 1);
        rowsAre(house, 0, "abc", "dex");
        house.scrolls(0, true);
        Check.due("it scrolls", Check.say(house, 0, "z"), 1);
        rowsAre(house, 0, "dez", "...");
        cursorIs(house, 0, 1, 0);
        Check.due("and again", Check.say(house, 0, "ghijk"), 5);
        rowsAre(house, 0, "ghi", "jk.");
        cursorIs(house, 0, 1, 2);
        house.dress(0, 3);
        Check.say(house, 0, "l");
        Check.due("BLANK without ATTRIBUTES", house.look(0, 1, 1), 32);
        house.at(0, 0, 2);
        Check.due("no scroll from another row", Check.say(house, 0, "m"), 1);
        rowsAre(house, 0, "jkm", "...");
        cursorIs(house, 0, 1, 0);
    }

    private static void oneCell() {
        TerminalHouse house = house(4, 16);
        house.open(3, 15, 1, 1);
        Check.due("one is said", Check.say(house, 0, "ab"), 1);
        rowsAre(house, 0, "a");
        cursorIs(house, 0, 0, 0);
        Check.due("10 is not", Check.say(house, 0, "\nb"), 0);
        rowsAre(house, 0, "a");
        Check.due("a tab is", Check.say(house, 0, "\tb"), 1);
        rowsAre(house, 0, ".");
        house.scrolls(0, true);
        Check.due("all are said", Check.say(house, 0, "ab\nc\td"), 6);
        rowsAre(house, 0, ".");
        cursorIs(house, 0, 0, 0);
        // one column: each byte goes to the next row
        house.open(0, 0, 3, 1);
        Check.due("one column", Check.say(house, 1, "abcd"), 3);
        rowsAre(house, 1, "a", "b", "c");
        cursorIs(house, 1, 2, 0);
        // one row
        house.open(0, 0, 1, 4);
        Check.due("one row", Check.say(house, 2, "abcdefg"), 4);
        rowsAre(house, 2, "abcd");
        cursorIs(house, 2, 0, 3);
    }

    private static void lineBreaks() {
        Check.says("10: the CELLS from the CURSOR to its row's end become BLANK, then the first column of the next row, likewise (in"
            + " the last row of one that does not SCROLL nothing is done, it is not said, nor what is behind).");
        TerminalHouse house = house(4, 16);
        house.open(0, 0, 3, 4);
        house.dress(0, 9);
        Check.say(house, 0, "abcdefghijk");
        house.at(0, 0, 3);
        Check.due("at the last column", Check.say(house, 0, "\n"), 1);
        rowsAre(house, 0, "abc.", "efgh", "ijk.");
        Check.due("BLANK without ATTRIBUTES", house.look(0, 0, 3), 32);
        cursorIs(house, 0, 1, 0);
        Check.due("at the first column", Check.say(house, 0, "\n"), 1);
        rowsAre(house, 0, "abc.", "....", "ijk.");
        cursorIs(house, 0, 2, 0);
        house.at(0, 2, 1);
        Check.due("in the last row", Check.say(house, 0, "\nxyz"), 0);
        rowsAre(house, 0, "abc.", "....", "ijk.");
        cursorIs(house, 0, 2, 1);
        Check.due("what is ahead is said", Check.say(house, 0, "J\nxyz"), 1);
        rowsAre(house, 0, "abc.", "....", "iJk.");
        house.scrolls(0, true);
        Check.due("it scrolls", Check.say(house, 0, "\nz"), 2);
        rowsAre(house, 0, "....", "iJ..", "z...");
        cursorIs(house, 0, 2, 1);
    }

    private static void tab(int from, int blanks, int row, int column) {
        TerminalHouse house = house(4, 24);
        house.open(0, 0, 2, 20);
        house.dress(0, 1);
        Check.say(house, 0, "x".repeat(39));
        house.at(0, 0, from);
        house.dress(0, 2);
        Check.due("a tab from " + from, Check.say(house, 0, "\t"), 1);
        for (int x = 0; x < 20; x++) {
            boolean isBlank = x >= from && x < from + blanks;
            Check.due("column " + x + " behind a tab from " + from, house.look(0, 0, x), isBlank ? 32 + 512 : 'x' + 256);
        }
        Check.due("the next row", house.look(0, 1, 0), 'x' + 256);
        cursorIs(house, 0, row, column);
    }

    private static void tabs() {
        Check.says("9: as BLANKS 32 said up to the next column that is a multiple of 8, but the row's last at most is the last one that"
            + " is said (each as told).");
        tab(0, 8, 0, 8);
        tab(1, 7, 0, 8);
        tab(7, 1, 0, 8);
        tab(8, 8, 0, 16);
        tab(15, 1, 0, 16);
        tab(16, 4, 1, 0);
        tab(19, 1, 1, 0);
        TerminalHouse house = house(4, 24);
        house.open(0, 0, 2, 16);
        house.at(0, 0, 8);
        Check.due("a row of 16", Check.say(house, 0, "\tx"), 2);
        cursorIs(house, 0, 1, 1);
        house.at(0, 1, 7);
        Check.due("in the last row", Check.say(house, 0, "\ty"), 2);
        cursorIs(house, 0, 1, 9);
        Check.due("to the last cell", Check.say(house, 0, "\tz"), 1);
        cursorIs(house, 0, 1, 15);
        rowsAre(house, 0, "................", "x.......y.......");
        house.scrolls(0, true);
        Check.due("it scrolls once", Check.say(house, 0, "\tz"), 2);
        rowsAre(house, 0, "x.......y.......", "z...............");
        cursorIs(house, 0, 1, 1);
        house.open(0, 0, 2, 5);
        Check.due("a row of 5", Check.say(house, 1, "\tx"), 2);
        cursorIs(house, 1, 1, 1);
    }

    private static void bells() {
        Check.says("7: a BELL is wanted.");
        TerminalHouse house = new TerminalHouse(4, 16, 1);
        Check.describe(house, "t,\n cols#16, lines#4, clear=, cup=CCC, bel=BB,\n");
        Check.use(house, "t");
        house.open(0, 0, 1, 3);
        Check.due("no bell", house.update(), 0);
        Check.due("said", Check.say(house, 0, "\u0007"), 1);
        cursorIs(house, 0, 0, 0);
        Check.due("not shown, but wanted", house.update(), 2);
        Check.due("no more", house.update(), 0);
        Check.say(house, 0, "\u0007");
        house.close(0);
        Check.due("wanted, though the window is closed", house.update(), 2);
        house.open(0, 0, 1, 3);
        Check.due("a bell behind the last cell", Check.say(house, 0, "abc\u0007"), 3);
        Check.due("is not said", house.update(), 0);
        Check.due("a bell behind a 10 of the last row", Check.say(house, 0, "\r\n\u0007"), 1);
        Check.due("is not said", house.update(), 0);
    }

    private static TerminalHouse filled(int y, int x) {
        TerminalHouse house = house(4, 16);
        house.open(0, 0, 3, 4);
        house.dress(0, 6);
        Check.say(house, 0, "abcdefghijkl");
        house.at(0, y, x);
        return house;
    }

    private static void erased(int y, int x, int what, String... rows) {
        TerminalHouse house = filled(y, x);
        Check.due("erase " + what, house.erase(0, what), true);
        rowsAre(house, 0, rows);
        cursorIs(house, 0, what == 0 ? 0 : y, what == 0 ? 0 : x);
        Check.due("ATTRIBUTES", house.where(0, 6), 6);
    }

    private static void erasing() {
        Check.says("BLANK becomes: what 0 all of it, the CURSOR is 0, 0; 1 from the CURSOR to the end; 2 to its row's end. False also"
            + " for another what.");
        erased(1, 2, 0, "....", "....", "....");
        erased(1, 2, 1, "abcd", "ef..", "....");
        erased(1, 2, 2, "abcd", "ef..", "ijkl");
        erased(0, 0, 1, "....", "....", "....");
        erased(0, 0, 2, "....", "efgh", "ijkl");
        erased(2, 3, 1, "abcd", "efgh", "ijk.");
        erased(2, 3, 2, "abcd", "efgh", "ijk.");
        erased(0, 3, 2, "abc.", "efgh", "ijkl");
        int[] wrong = {LEAST, -1, 3, 4, 256, MOST};
        TerminalHouse house = filled(1, 2);
        for (int what : wrong) {
            Check.due("erase " + what, house.erase(0, what), false);
        }
        rowsAre(house, 0, "abcd", "efgh", "ijkl");
        cursorIs(house, 0, 1, 2);
    }

    private static void moved(int row, int n, String... rows) {
        TerminalHouse house = filled(row, 1);
        Check.due("rows " + n, house.rows(0, n), true);
        rowsAre(house, 0, rows);
        cursorIs(house, 0, row, 1);
    }

    private static void rolled(int n, String... rows) {
        TerminalHouse house = filled(2, 3);
        Check.due("roll " + n, house.roll(0, n), true);
        rowsAre(house, 0, rows);
        cursorIs(house, 0, 2, 3);
    }

    private static void rowsAndRolls() {
        Check.says("n above 0: so many BLANK rows come in at the CURSOR's, those from it on go down (the last are lost); below 0: so many"
            + " go from it on, the others come up, BLANK ones behind them. (0 does nothing; true.)");
        moved(0, 0, "abcd", "efgh", "ijkl");
        moved(0, 1, "....", "abcd", "efgh");
        moved(0, 2, "....", "....", "abcd");
        moved(0, -1, "efgh", "ijkl", "....");
        moved(0, -2, "ijkl", "....", "....");
        moved(1, 1, "abcd", "....", "efgh");
        moved(1, -1, "abcd", "ijkl", "....");
        moved(2, 1, "abcd", "efgh", "....");
        moved(2, -1, "abcd", "efgh", "....");
        int[] all = {3, 4, 1000, MOST, -3, -4, -1000, LEAST, LEAST + 1};
        for (int n : all) {
            moved(0, n, "....", "....", "....");
            moved(1, n, "abcd", "....", "....");
            moved(2, n, "abcd", "efgh", "....");
        }
        moved(1, 2, "abcd", "....", "....");
        moved(1, -2, "abcd", "....", "....");
        Check.says("All rows go n up (below 0: down), BLANK ones come in. The CURSOR stays.");
        rolled(0, "abcd", "efgh", "ijkl");
        rolled(1, "efgh", "ijkl", "....");
        rolled(2, "ijkl", "....", "....");
        rolled(-1, "....", "abcd", "efgh");
        rolled(-2, "....", "....", "abcd");
        for (int n : all) {
            rolled(n, "....", "....", "....");
        }
    }

    private static void celled(int column, int n, String row) {
        TerminalHouse house = filled(1, column);
        Check.due("cells " + n, house.cells(0, n), true);
        rowsAre(house, 0, "abcd", row, "ijkl");
        cursorIs(house, 0, 1, column);
        int first = house.look(0, 1, 0);
        Check.due("cells keep their ATTRIBUTES, BLANK ones have none", first == 32 || first >> 8 == 6, true);
    }

    private static void cells() {
        Check.says("Likewise CELLS in the CURSOR's row, from it on.");
        celled(0, 0, "efgh");
        celled(0, 1, ".efg");
        celled(0, 3, "...e");
        celled(0, -1, "fgh.");
        celled(0, -3, "h...");
        celled(2, 1, "ef.g");
        celled(2, -1, "efh.");
        celled(3, 1, "efg.");
        celled(3, -1, "efg.");
        int[] all = {4, 5, 1000, MOST, -4, -5, -1000, LEAST, LEAST + 1};
        for (int n : all) {
            celled(0, n, "....");
            celled(2, n, "ef..");
            celled(3, n, "efg.");
        }
        celled(2, 2, "ef..");
        celled(2, -2, "ef..");
    }

    private static void boxed(int h, int w, String... rows) {
        TerminalHouse house = house(4, 16);
        house.open(0, 0, h, w);
        house.dress(0, 10);
        house.at(0, h - 1, w - 1);
        Check.due("box", house.box(0), true);
        rowsAre(house, 0, rows);
        cursorIs(house, 0, h - 1, w - 1);
        Check.due("with its ATTRIBUTES", house.look(0, h - 1, w - 1), '+' + 2560);
        Check.due("with its ATTRIBUTES", house.look(0, 0, 0), '+' + 2560);
    }

    private static void boxes() {
        Check.says("Its edge: + at the four corners, - in the first and last row, | in the first and last column, with its ATTRIBUTES (in"
            + " a WINDOW of one row or column, too: corners go ahead of -, that of |).");
        boxed(1, 1, "+");
        boxed(1, 2, "++");
        boxed(1, 3, "+-+");
        boxed(2, 1, "+", "+");
        boxed(3, 1, "+", "|", "+");
        boxed(2, 2, "++", "++");
        boxed(2, 4, "+--+", "+--+");
        boxed(3, 2, "++", "||", "++");
        boxed(4, 5, "+---+", "|...|", "|...|", "+---+");
        TerminalHouse house = filled(0, 0);
        house.dress(0, 0);
        house.box(0);
        rowsAre(house, 0, "+--+", "|fg|", "+--+");
        Check.due("what is within keeps its own", house.look(0, 1, 1), 'f' + 256 * 6);
    }

    private static void looking() {
        Check.says("A CELL of it. NONE.");
        TerminalHouse house = filled(0, 0);
        int[] rows = {LEAST, -1, 0, 2, 3, 4, MOST};
        int[] columns = {LEAST, -1, 0, 3, 4, 15, MOST};
        for (int y : rows) {
            for (int x : columns) {
                boolean isIn = y >= 0 && y < 3 && x >= 0 && x < 4;
                Check.due("look " + y + " " + x, house.look(0, y, x), isIn ? 'a' + y * 4 + x + 256 * 6 : -1);
            }
        }
    }

    private static void showing() {
        Check.says("TO SHOW a WINDOW: its CELLS come to the WANTED screen (L x W; at USE BLANK, its cursor 0, 0) at its place, the WANTED"
            + " cursor is where its CURSOR is.");
        TerminalHouse house = house(4, 16);
        house.open(2, 12, 2, 4);
        Check.due("BLANK at first", house.wanted(3, 15), 32);
        Check.due("BLANKS over BLANKS", house.show(0), 0);
        Check.say(house, 0, "abcdefgh");
        Check.due("not yet shown", house.wanted(2, 12), 32);
        Check.due("all", house.show(0), 8);
        Check.due("the first", house.wanted(2, 12), 'a');
        Check.due("the last", house.wanted(3, 15), 'h');
        Check.due("beside it", house.wanted(2, 11), 32);
        Check.due("above it", house.wanted(1, 12), 32);
        Check.due("again", house.show(0), 0);
        house.dress(0, 15);
        house.at(0, 0, 0);
        Check.say(house, 0, "ax");
        Check.due("ATTRIBUTES alone, and a byte", house.show(0), 2);
        Check.due("with all its ATTRIBUTES", house.wanted(2, 12), 'a' + 256 * 15);
        Check.due("update", house.update() > 0, true);
        Check.due("the cursor's row", house.count(15), 2);
        Check.due("the cursor's column", house.count(16), 14);
        int[][] wrong = {{-1, 0}, {0, -1}, {4, 0}, {0, 16}, {LEAST, 0}, {0, LEAST}, {MOST, 0}, {0, MOST}};
        for (int[] w : wrong) {
            Check.due("wanted", house.wanted(w[0], w[1]), -1);
            Check.due("known", house.known(w[0], w[1]), -1);
        }
        // another window above it: the latest shown is on top
        house.open(3, 15, 1, 1);
        Check.due("its BLANK covers", house.show(1), 1);
        Check.due("covered", house.wanted(3, 15), 32);
        Check.due("the other one covers again", house.show(0), 1);
    }

    /** A window as great as a screen can be: what is done up to its last cell. */
    private static void greatest() {
        Check.says("each has a place, rows and columns wholly on the screen");
        TerminalHouse house = house(24, 80);
        Check.due("open", house.open(0, 0, 24, 80), 0);
        house.at(0, 23, 0);
        Check.due("the last row", Check.say(house, 0, "x".repeat(81)), 80);
        cursorIs(house, 0, 23, 79);
        Check.due("the last cell", house.look(0, 23, 79), 'x');
        Check.due("cells", house.cells(0, 1), true);
        Check.due("the last cell", house.look(0, 23, 79), 32);
        Check.due("the one ahead", house.look(0, 23, 78), 'x');
        Check.due("rows", house.rows(0, 1), true);
        Check.due("the last row", house.look(0, 23, 78), 32);
        Check.due("box", house.box(0), true);
        Check.due("show", house.show(0), 2 * 80 + 2 * 22);
        Check.due("erase", house.erase(0, 1), true);
        Check.due("the last cell", house.look(0, 23, 79), 32);
        Check.due("roll", house.roll(0, -1), true);
        Check.due("roll", house.roll(0, 1), true);
        Check.due("the row that went down and came up", house.look(0, 0, 79), '+');
        house.scrolls(0, true);
        Check.due("it scrolls", Check.say(house, 0, "y"), 1);
        Check.due("scrolled", house.look(0, 22, 79), 'y');
        Check.due("erase", house.erase(0, 2), true);
        Check.due("show", house.show(0) > 0, true);
    }
}
