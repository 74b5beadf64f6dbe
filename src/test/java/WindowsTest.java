/** Promises 11 to 24: WINDOWS, what is said in them, and show. */
public final class WindowsTest {
    private static final int LEAST = Integer.MIN_VALUE;
    private static final int MOST = Integer.MAX_VALUE;

    public static void main(String[] args) {
        opening();
        wrongWindows();
        cursor();
        saying();
        sayingTabs();
        erasing();
        moving();
        boxes();
        showing();
        Check.finish("WindowsTest");
    }

    static TerminalHouse house(int lines, int columns) {
        TerminalHouse house = new TerminalHouse(lines, columns, 1);
        Check.describe(house, "t,\n cols#" + columns + ", lines#" + lines + ", clear=^L, cup=c%p1%d%p2%d,\n");
        Check.due("use", Check.use(house, "t"), 0);
        return house;
    }

    /** A row of a WINDOW: its bytes, BLANKS as points. */
    private static String row(TerminalHouse house, int window, int y) {
        StringBuilder all = new StringBuilder();
        for (int x = 0; house.look(window, y, x) >= 0; x++) {
            int cell = house.look(window, y, x);
            all.append(cell == 32 ? '.' : (char) (cell & 255));
        }
        return all.toString();
    }

    static void rowsAre(TerminalHouse house, int window, String... rows) {
        for (int y = 0; y < rows.length; y++) {
            Check.due("row " + y, row(house, window, y), rows[y]);
        }
        Check.due("no row behind", house.look(window, rows.length, 0), -1);
    }

    static void cursorIs(TerminalHouse house, int window, int y, int x) {
        Check.due("cursor row", house.where(window, 4), y);
        Check.due("cursor column", house.where(window, 5), x);
    }

    private static void opening() {
        TerminalHouse house = house(4, 16);
        int[][] wrong = {{0, 0, 0, 1}, {0, 0, 1, 0}, {-1, 0, 1, 1}, {0, -1, 1, 1}, {0, 0, 5, 1}, {0, 0, 1, 17},
            {4, 0, 1, 1}, {0, 16, 1, 1}, {3, 0, 2, 1}, {0, 15, 1, 2}, {MOST, MOST, MOST, MOST},
            {LEAST, 0, 1, 1}, {1, 1, MOST, MOST}, {0, 0, -1, 5}, {MOST, 0, 1, 1}, {0, 0, LEAST, LEAST}};
        for (int[] w : wrong) {
            Check.due("open", house.open(w[0], w[1], w[2], w[3]), -1);
        }
        Check.due("open all", house.open(0, 0, 4, 16), 0);
        Check.due("open a corner", house.open(3, 15, 1, 1), 1);
        for (int i = 2; i < 8; i++) {
            Check.due("open", house.open(1, 2, 2, 3), i);
            Check.due("windows", house.count(4), i + 1);
        }
        Check.due("a ninth", house.open(0, 0, 1, 1), -1);
        int[] told = {1, 2, 2, 3, 0, 0, 0, 0, -1};
        for (int i = 0; i < told.length; i++) {
            Check.due("where " + i, house.where(5, i), told[i]);
        }
        Check.due("where -1", house.where(5, -1), -1);
        Check.say(house, 3, "ab");
        house.scrolls(3, true);
        house.dress(3, 7);
        Check.due("close", house.close(3), true);
        Check.due("close again", house.close(3), false);
        Check.due("windows", house.count(4), 7);
        Check.due("close", house.close(6), true);
        Check.due("the lowest is given", house.open(0, 0, 2, 2), 3);
        rowsAre(house, 3, "..", "..");
        cursorIs(house, 3, 0, 0);
        Check.due("it does not scroll", house.where(3, 7), 0);
        Check.due("attributes", house.where(3, 6), 0);
    }

    private static void wrongWindows() {
        TerminalHouse house = house(4, 16);
        house.open(0, 0, 1, 1);
        int[] wrong = {1, 7, 8, -1, LEAST, MOST};
        for (int w : wrong) {
            Check.due("close", house.close(w), false);
            Check.due("at", house.at(w, 0, 0), false);
            Check.due("dress", house.dress(w, 0), false);
            Check.due("scrolls", house.scrolls(w, true), false);
            Check.due("say", Check.say(house, w, "x"), -1);
            Check.due("tape", house.count(13), 0);
            Check.due("erase", house.erase(w, 0), false);
            Check.due("rows", house.rows(w, 1), false);
            Check.due("cells", house.cells(w, 1), false);
            Check.due("roll", house.roll(w, 1), false);
            Check.due("box", house.box(w), false);
            Check.due("look", house.look(w, 0, 0), -1);
            Check.due("where", house.where(w, 0), -1);
            Check.due("show", house.show(w), -1);
        }
    }

    private static void cursor() {
        TerminalHouse house = house(4, 16);
        house.open(1, 1, 2, 5);
        Check.due("at", house.at(0, 1, 4), true);
        cursorIs(house, 0, 1, 4);
        int[][] wrong = {{2, 0}, {0, 5}, {-1, 0}, {0, -1}, {LEAST, LEAST}, {MOST, MOST}};
        for (int[] w : wrong) {
            Check.due("at", house.at(0, w[0], w[1]), false);
            Check.due("look", house.look(0, w[0], w[1]), -1);
        }
        cursorIs(house, 0, 1, 4);
        int[] attributes = {0, 1, 8, 15};
        for (int a : attributes) {
            Check.due("dress", house.dress(0, a), true);
            Check.due("attributes", house.where(0, 6), a);
        }
        Check.due("dress -1", house.dress(0, -1), false);
        Check.due("dress 16", house.dress(0, 16), false);
        Check.due("attributes", house.where(0, 6), 15);
        Check.say(house, 0, "z");
        Check.due("a dressed cell", house.look(0, 1, 4), 'z' + 256 * 15);
        Check.due("scrolls", house.scrolls(0, true), true);
        Check.due("scrolls", house.where(0, 7), 1);
        Check.due("scrolls", house.scrolls(0, false), true);
        Check.due("scrolls", house.where(0, 7), 0);
    }

    private static void saying() {
        TerminalHouse house = house(4, 16);
        house.open(0, 0, 3, 4);
        Check.due("say nothing", house.say(0), 0);
        Check.due("say", Check.say(house, 0, "abcdef"), 6);
        rowsAre(house, 0, "abcd", "ef..", "....");
        cursorIs(house, 0, 1, 2);
        Check.due("13, 8", Check.say(house, 0, "\b\bX\b\b\b\bY\rZ"), 10);
        rowsAre(house, 0, "abcd", "Zf..", "....");
        cursorIs(house, 0, 1, 1);
        Check.due("10 blanks the rest", Check.say(house, 0, "\ng"), 2);
        rowsAre(house, 0, "abcd", "Z...", "g...");
        Check.due("10 in the last row", Check.say(house, 0, "h\nij"), 1);
        rowsAre(house, 0, "abcd", "Z...", "gh..");
        cursorIs(house, 0, 2, 2);
        Check.due("the last cell", Check.say(house, 0, "ijkl"), 2);
        rowsAre(house, 0, "abcd", "Z...", "ghij");
        cursorIs(house, 0, 2, 3);
        house.at(0, 2, 1);
        Check.due("10 does nothing there", Check.say(house, 0, "\n"), 0);
        rowsAre(house, 0, "abcd", "Z...", "ghij");
        house.at(0, 2, 3);
        Check.due("the last cell again", Check.say(house, 0, "kl"), 1);
        rowsAre(house, 0, "abcd", "Z...", "ghik");
        house.scrolls(0, true);
        Check.due("scrolling", Check.say(house, 0, "mno"), 3);
        rowsAre(house, 0, "Z...", "ghim", "no..");
        cursorIs(house, 0, 2, 2);
        Check.due("10 scrolls", Check.say(house, 0, "\np"), 2);
        rowsAre(house, 0, "ghim", "no..", "p...");
        Check.due("others are said", Check.say(house, 0, "\0\u0001\u000b\f\u001b\u007f\u0080\u00ff"), 8);
        rowsAre(house, 0, "ghim", "no..", "p...");
        cursorIs(house, 0, 2, 1);
        TerminalHouse dressed = house(4, 16);
        dressed.open(0, 0, 1, 3);
        dressed.dress(0, 9);
        Check.due("say", Check.say(dressed, 0, "a b"), 3);
        Check.due("a dressed blank", dressed.look(0, 0, 1), 32 + 256 * 9);
        Check.say(dressed, 0, "\r");
        dressed.scrolls(0, true);
        Check.say(dressed, 0, "\n");
        Check.due("10 leaves blanks undressed", dressed.look(0, 0, 1), 32);
    }

    private static void sayingTabs() {
        TerminalHouse house = house(4, 16);
        house.open(0, 0, 2, 10);
        house.dress(0, 2);
        Check.due("tab", Check.say(house, 0, "ab\tc"), 4);
        Check.due("a tab's blank", house.look(0, 0, 2), 32 + 512);
        Check.due("a tab's last blank", house.look(0, 0, 7), 32 + 512);
        Check.due("behind the tab", house.look(0, 0, 8), 'c' + 512);
        cursorIs(house, 0, 0, 9);
        Check.due("a tab at the last column", Check.say(house, 0, "\td"), 2);
        Check.due("its blank", house.look(0, 0, 9), 32 + 512);
        Check.due("the next row", house.look(0, 1, 0), 'd' + 512);
        cursorIs(house, 0, 1, 1);
        Check.due("a tab to the last cell", Check.say(house, 0, "\t\tx"), 2);
        cursorIs(house, 0, 1, 9);
        house.scrolls(0, true);
        Check.due("a tab that scrolls", Check.say(house, 0, "\te"), 2);
        Check.due("scrolled", house.look(0, 0, 0), 'd' + 512);
        Check.due("behind", house.look(0, 1, 0), 'e' + 512);
        house.at(0, 0, 0);
        Check.say(house, 0, "\t");
        cursorIs(house, 0, 0, 8);
    }

    private static TerminalHouse filled() {
        TerminalHouse house = house(4, 16);
        house.open(0, 0, 4, 4);
        Check.say(house, 0, "abcdefghijklmnop");
        house.at(0, 1, 2);
        return house;
    }

    private static void erasing() {
        TerminalHouse house = filled();
        Check.due("erase 3", house.erase(0, 3), false);
        Check.due("erase -1", house.erase(0, -1), false);
        rowsAre(house, 0, "abcd", "efgh", "ijkl", "mnop");
        Check.due("erase 2", house.erase(0, 2), true);
        rowsAre(house, 0, "abcd", "ef..", "ijkl", "mnop");
        cursorIs(house, 0, 1, 2);
        house.at(0, 2, 1);
        house.dress(0, 15);
        Check.due("erase 1", house.erase(0, 1), true);
        rowsAre(house, 0, "abcd", "ef..", "i...", "....");
        cursorIs(house, 0, 2, 1);
        Check.due("erase 0", house.erase(0, 0), true);
        rowsAre(house, 0, "....", "....", "....", "....");
        cursorIs(house, 0, 0, 0);
        Check.due("attributes stay", house.where(0, 6), 15);
    }

    private static void moving() {
        TerminalHouse house = filled();
        Check.due("rows 0", house.rows(0, 0), true);
        rowsAre(house, 0, "abcd", "efgh", "ijkl", "mnop");
        Check.due("rows 1", house.rows(0, 1), true);
        rowsAre(house, 0, "abcd", "....", "efgh", "ijkl");
        Check.due("rows -2", house.rows(0, -2), true);
        rowsAre(house, 0, "abcd", "ijkl", "....", "....");
        cursorIs(house, 0, 1, 2);
        int[] all = {3, 4, MOST, -3, -100, LEAST};
        for (int n : all) {
            TerminalHouse other = filled();
            Check.due("rows " + n, other.rows(0, n), true);
            rowsAre(other, 0, "abcd", "....", "....", "....");
        }
        house = filled();
        Check.due("cells 0", house.cells(0, 0), true);
        Check.due("cells 1", house.cells(0, 1), true);
        rowsAre(house, 0, "abcd", "ef.g", "ijkl", "mnop");
        Check.due("cells -1", house.cells(0, -1), true);
        rowsAre(house, 0, "abcd", "efg.", "ijkl", "mnop");
        int[] rest = {2, 3, MOST, -2, -3, LEAST};
        for (int n : rest) {
            TerminalHouse other = filled();
            Check.due("cells " + n, other.cells(0, n), true);
            rowsAre(other, 0, "abcd", "ef..", "ijkl", "mnop");
            cursorIs(other, 0, 1, 2);
        }
        house = filled();
        Check.due("roll 1", house.roll(0, 1), true);
        rowsAre(house, 0, "efgh", "ijkl", "mnop", "....");
        cursorIs(house, 0, 1, 2);
        Check.due("roll -2", house.roll(0, -2), true);
        rowsAre(house, 0, "....", "....", "efgh", "ijkl");
        Check.due("roll 0", house.roll(0, 0), true);
        rowsAre(house, 0, "....", "....", "efgh", "ijkl");
        int[] away = {4, 5, MOST, -4, -5, LEAST, LEAST + 1};
        for (int n : away) {
            TerminalHouse other = filled();
            Check.due("roll " + n, other.roll(0, n), true);
            rowsAre(other, 0, "....", "....", "....", "....");
        }
    }

    private static void boxes() {
        TerminalHouse house = house(4, 16);
        house.open(0, 0, 3, 4);
        Check.say(house, 0, "abcdefgh");
        house.dress(0, 5);
        Check.due("box", house.box(0), true);
        rowsAre(house, 0, "+--+", "|fg|", "+--+");
        Check.due("corner", house.look(0, 0, 0), '+' + 256 * 5);
        Check.due("inside", house.look(0, 1, 1), 'f');
        cursorIs(house, 0, 2, 0);
        house.open(0, 0, 1, 5);
        house.box(1);
        rowsAre(house, 1, "+---+");
        house.open(0, 0, 4, 1);
        house.box(2);
        rowsAre(house, 2, "+", "|", "|", "+");
        house.open(0, 0, 1, 1);
        house.box(3);
        rowsAre(house, 3, "+");
        house.open(0, 0, 2, 2);
        house.box(4);
        rowsAre(house, 4, "++", "++");
    }

    private static void showing() {
        TerminalHouse house = house(4, 16);
        house.open(1, 2, 2, 3);
        Check.due("show of blanks", house.show(0), 0);
        Check.say(house, 0, "abcd");
        Check.due("show", house.show(0), 4);
        Check.due("show again", house.show(0), 0);
        Check.due("wanted", house.wanted(1, 2), 'a');
        Check.due("wanted", house.wanted(2, 2), 'd');
        Check.due("wanted", house.wanted(2, 3), 32);
        Check.due("wanted outside", house.wanted(0, 0), 32);
        house.open(1, 3, 1, 2);
        house.dress(1, 15);
        Check.say(house, 1, "x");
        Check.due("show of another", house.show(1), 2);
        Check.due("with all attributes", house.wanted(1, 3), 'x' + 256 * 15);
        Check.due("its blank covers", house.wanted(1, 4), 32);
        house.close(0);
        house.close(1);
        Check.due("what was shown stays", house.wanted(1, 2), 'a');
        int[][] wrong = {{-1, 0}, {0, -1}, {4, 0}, {0, 16}, {LEAST, MOST}};
        for (int[] w : wrong) {
            Check.due("wanted", house.wanted(w[0], w[1]), -1);
            Check.due("known", house.known(w[0], w[1]), -1);
        }
        Check.due("known while strange", house.known(0, 0), -1);
        Check.due("update", house.update() > 0, true);
        Check.due("known", house.known(1, 2), 'a');
        Check.due("known without what is not offered", house.known(1, 3), 'x');
        Check.due("known", house.known(0, 0), 32);
        for (int[] w : wrong) {
            Check.due("known", house.known(w[0], w[1]), -1);
        }
        // the cursor of the window shown last, at 1, 3 + 1
        Check.due("cursor row", house.count(15), 1);
        Check.due("cursor column", house.count(16), 4);
        Check.due("redraw", house.redraw(), true);
        Check.due("known behind redraw", house.known(1, 2), -1);
    }
}
