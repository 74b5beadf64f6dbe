/** Promises 29 to 31: flags, write, read, and how what comes is edited and echoed. */
public final class DisciplineTest {
    private static final int ALL = 127;

    public static void main(String[] args) {
        flags();
        writing();
        columns();
        lostBytes();
        lines();
        rubbing();
        tabs();
        literal();
        signals();
        stops();
        echoedAnew();
        fullEdit();
        fullReady();
        readingParts();
        linesOff();
        raw();
        Check.finish("DisciplineTest");
    }

    /** Types a text: a key a byte, the controls with key 28. */
    static void type(TerminalHouse house, String text) {
        for (char c : text.toCharArray()) {
            boolean isControl = c < 32 || c == 127;
            int key = c == 127 ? '?' : c < 32 ? c + 64 : c;
            if (isControl) {
                house.key(28, true);
            }
            house.key(key, true);
            house.ticks(8);
            house.key(key, false);
            if (isControl) {
                house.key(28, false);
            }
            house.ticks(8);
        }
        house.ticks(20);
    }

    static void readIs(TerminalHouse house, int n, String want) {
        Check.due("read", house.read(n), want.length());
        Check.due("out", Check.out(house), want);
    }

    private static void flags() {
        TerminalHouse house = new TerminalHouse(4, 16, 1);
        Check.due("at first", house.flags(0x1ff), 127);
        Check.due("the lowest eight bits", house.count(17), 255);
        Check.due("the old ones", house.flags(-256), 255);
        Check.due("none", house.flags(5), 0);
        Check.due("five", house.count(17), 5);
    }

    private static void writing() {
        TerminalHouse house = new TerminalHouse(4, 16, 1);
        Check.due("write nothing", house.write(), 0);
        Check.due("10 is 13 and 10", Check.write(house, "a\nb\r\n"), 7);
        Check.due("queue", house.count(5), 7);
        Check.rest(house);
        Check.due("row 0", Check.row(house, 0), "a");
        Check.due("row 1", Check.row(house, 1), "b");
        Check.due("row", house.state(0), 2);
        house.flags(0);
        Check.due("10 is itself", Check.write(house, "c\nd"), 3);
        Check.rest(house);
        Check.due("row 2", Check.row(house, 2), "c");
        Check.due("row 3", Check.row(house, 3), " d");
        house.flags(128);
        Check.due("column", house.count(10), 2);
        Check.due("a tab as blanks", Check.write(house, "\t\te"), 6 + 8 + 1);
        Check.due("column", house.count(10), 17);
        house.flags(0);
        Check.due("a tab", Check.write(house, "\t"), 1);
        Check.due("column", house.count(10), 24);
    }

    private static void columns() {
        TerminalHouse house = new TerminalHouse(4, 16, 1);
        String[] texts = {"abc", "\b", "\t", "\u0007\u001b\0\u007f\u00e9", "\b\b", "\n", "\b", "~ ", "\r", "x"};
        int[] due = {3, 2, 8, 8, 6, 0, 0, 2, 0, 1};
        for (int i = 0; i < texts.length; i++) {
            Check.write(house, texts[i]);
            Check.due("column behind write " + i, house.count(10), due[i]);
        }
        house.flags(ALL - 16);
        Check.write(house, "\n");
        Check.due("10 leaves the column", house.count(10), 1);
        Check.write(house, "\t".repeat(1249));
        Check.due("column", house.count(10), 9992);
        Check.write(house, "1234567");
        Check.due("column", house.count(10), 9999);
        Check.write(house, "89");
        Check.due("at most", house.count(10), 10000);
        Check.write(house, "\tx");
        Check.due("at most", house.count(10), 10000);
        Check.write(house, "\b");
        Check.due("one less", house.count(10), 9999);
    }

    private static void lostBytes() {
        TerminalHouse house = new TerminalHouse(4, 16, 1);
        house.flags(255);
        Check.due("what came", Check.write(house, "\t".repeat(1001)), 8000);
        Check.due("queue", house.count(5), 8000);
        Check.due("lost", house.count(18), 8);
        Check.due("nothing came", Check.write(house, "ab\n"), 0);
        Check.due("lost", house.count(18), 12);
        Check.due("what is lost counts", house.count(10), 0);
        house.ticks(1);
        Check.due("one was sent", house.count(5), 7999);
        Check.due("one came", Check.write(house, "\n"), 1);
        Check.due("lost", house.count(18), 13);
    }

    private static void lines() {
        TerminalHouse house = new TerminalHouse(6, 20, 1);
        Check.due("nothing is ready", house.read(10), -1);
        type(house, "hi");
        Check.due("edited", house.count(7), 2);
        Check.due("ready", house.count(8), 0);
        Check.due("nothing is ready", house.read(10), -1);
        type(house, "\r");
        Check.due("edited", house.count(7), 0);
        Check.due("ready, with its END", house.count(8), 4);
        int[] wrong = {0, -1, 301, Integer.MIN_VALUE, Integer.MAX_VALUE};
        for (int n : wrong) {
            Check.due("read " + n, house.read(n), -1);
        }
        readIs(house, 300, "hi\n");
        Check.due("ready", house.count(8), 0);
        Check.due("row", Check.row(house, 0), "hi");
        Check.due("echoed 10", house.state(0), 1);
        Check.due("column", house.state(1), 0);
        type(house, "ab\u0004c\n\u0004");
        Check.due("ready", house.count(8), 2 + 1 + 2 + 1 + 1);
        readIs(house, 9, "ab");
        readIs(house, 9, "c\n");
        readIs(house, 9, "");
        Check.due("ready", house.count(8), 0);
        house.flags(ALL - 2);
        type(house, "no\r");
        readIs(house, 9, "no\n");
        Check.due("no echo", Check.row(house, 2), "");
        house.flags(ALL - 8);
        type(house, "x\r");
        Check.due("13 is itself", house.count(7), 2);
        Check.due("and echoed so", Check.row(house, 2), "x^M");
    }

    private static void rubbing() {
        TerminalHouse house = new TerminalHouse(6, 20, 1);
        type(house, "abc\u007f");
        Check.due("edited", house.count(7), 2);
        Check.due("row", Check.row(house, 0), "ab");
        Check.due("column", house.state(1), 2);
        type(house, "\b\b\b");
        Check.due("edited", house.count(7), 0);
        Check.due("row", Check.row(house, 0), "");
        Check.due("column", house.count(10), 0);
        type(house, "one two  \u0017");
        Check.due("a word", house.count(7), 4);
        Check.due("row", Check.row(house, 0), "one");
        type(house, "\u0017");
        Check.due("a word", house.count(7), 0);
        type(house, "a b\u0001\u0015");
        Check.due("all", house.count(7), 0);
        Check.due("row", Check.row(house, 0), "");
        Check.due("column", house.count(10), 0);
        type(house, "x\u0001y");
        Check.due("a control is two signs", Check.row(house, 0), "x^Ay");
        type(house, "\u007f\u007f");
        Check.due("row", Check.row(house, 0), "x");
        Check.due("column", house.count(10), 1);
        house.flags(ALL - 4);
        type(house, "z\u007f");
        Check.due("without RUB", Check.row(house, 0), "xz");
        Check.due("edited", house.count(7), 1);
        house.flags(ALL - 2);
        type(house, "z\u007f\u007f");
        Check.due("without ECHO", Check.row(house, 0), "xz");
        Check.due("edited", house.count(7), 0);
    }

    private static void tabs() {
        TerminalHouse house = new TerminalHouse(6, 40, 1);
        Check.write(house, "abc");
        Check.rest(house);
        type(house, "de\tf");
        Check.due("column", house.count(10), 9);
        type(house, "\b\b");
        Check.due("where it would be without the tab", house.count(10), 5);
        Check.due("the terminal, too", house.state(1), 5);
        type(house, "\u0001\t\t\b");
        Check.due("from 3 on, with ^A", house.count(10), 8);
        type(house, "\b");
        Check.due("from 3 on, with ^A", house.count(10), 7);
        // a program's bytes in between: COLUMN is above by more
        Check.write(house, "xyz");
        type(house, "\t");
        Check.due("column", house.count(10), 16);
        type(house, "\b");
        Check.due("as if xyz were not there", house.count(10), 7);
        type(house, "\u0015");
        Check.due("all is rubbed", house.count(7), 0);
        // a 10 within what is edited
        TerminalHouse literal = new TerminalHouse(6, 40, 1);
        type(literal, "ab\u0016\ncd\t");
        Check.due("edited", literal.count(7), 6);
        Check.due("column", literal.count(10), 8);
        type(literal, "\b");
        Check.due("behind the 10", literal.count(10), 2);
        type(literal, "\b\b\b");
        Check.due("nothing for the 10", literal.count(10), 0);
        Check.due("edited", literal.count(7), 2);
    }

    private static void literal() {
        TerminalHouse house = new TerminalHouse(6, 20, 1);
        type(house, "a\u0016");
        Check.due("^ and one back", Check.row(house, 0), "a^");
        Check.due("column", house.state(1), 1);
        type(house, "\u0003");
        Check.due("taken", house.count(7), 2);
        Check.due("no signal", house.count(9), 0);
        Check.due("row", Check.row(house, 0), "a^C");
        type(house, "\u0016\r\u0016\u0016\u0016\u007f\u0016\u0013");
        Check.due("19 is not taken", house.count(7), 5);
        Check.due("stopped", house.count(6), 1);
        type(house, "\u0011q\n");
        readIs(house, 50, "a\u0003\r\u0016\u007fq\n");
        type(house, "\u0016");
        house.flags(0);
        house.flags(ALL);
        type(house, "\u007f");
        Check.due("LITERAL is off without LINES", house.count(7), 0);
        house.flags(ALL - 2);
        type(house, "\u0016\u0001\n");
        readIs(house, 50, "\u0001\n");
    }

    private static void signals() {
        TerminalHouse house = new TerminalHouse(6, 20, 1);
        type(house, "line\rab");
        Check.write(house, "q".repeat(500));
        type(house, "\u0003");
        Check.due("signals", house.count(9), 1);
        Check.due("edited", house.count(7), 0);
        Check.due("ready", house.count(8), 0);
        Check.due("queue", house.count(5), 0);
        Check.rest(house);
        Check.due("echoed", Check.row(house, house.state(0) - 1).endsWith("q^C"), true);
        Check.due("column", house.count(10), 0);
        type(house, "\u0013");
        Check.due("stopped", house.count(6), 1);
        type(house, "\u0003");
        Check.due("it goes on", house.count(6), 0);
        Check.due("signals", house.count(9), 2);
        house.flags(ALL - 32);
        type(house, "\u0003");
        Check.due("without SIGNALS", house.count(9), 2);
        Check.due("taken", house.count(7), 1);
        house.flags(ALL - 2);
        type(house, "\u0003");
        Check.due("without ECHO", house.count(9), 3);
        Check.due("queue", house.count(5), 0);
    }

    private static void stops() {
        TerminalHouse house = new TerminalHouse(6, 20, 1);
        type(house, "\u0013");
        Check.due("stopped", house.count(6), 1);
        Check.write(house, "abc");
        house.ticks(50);
        Check.due("nothing goes", house.count(5), 3);
        type(house, "\u0011");
        Check.due("goes on", house.count(6), 0);
        house.ticks(10);
        Check.due("all goes", house.count(5), 0);
        house.flags(ALL - 64);
        type(house, "\u0013");
        Check.due("without STOPS", house.count(6), 0);
        Check.due("taken", house.count(7), 1);
        Check.due("row", Check.row(house, 0), "abc^S");
    }

    private static void echoedAnew() {
        TerminalHouse house = new TerminalHouse(6, 20, 1);
        Check.write(house, "> ");
        type(house, "a\tb\u0001");
        type(house, "\u0012");
        Check.due("row 0", Check.row(house, 0), "> a     b^A^R");
        Check.due("row 1", Check.row(house, 1), "a       b^A");
        Check.due("edited", house.count(7), 4);
        type(house, "\b\b\b");
        Check.due("the line begins at 0 now", house.count(10), 1);
        house.flags(ALL - 2);
        type(house, "\u0012");
        Check.due("nothing without ECHO", Check.row(house, 2), "");
    }

    private static void fullEdit() {
        TerminalHouse house = new TerminalHouse(6, 20, 1);
        house.key('a', true);
        house.ticks(600);
        house.key('a', false);
        house.ticks(50);
        Check.due("edited", house.count(7), 100);
        Check.due("column", house.count(10), 100);
        Check.due("bells", house.state(8) > 10, true);
        int bells = house.state(8);
        house.flags(ALL - 2);
        type(house, "b");
        Check.due("a bell, also without ECHO", house.state(8), bells + 1);
        type(house, "\u007fc\n");
        Check.due("ready", house.count(8), 102);
        house.read(300);
        Check.due("the last ones", house.octet(98) * 1000 + house.octet(99), 'a' * 1000 + 'c');
    }

    private static void fullReady() {
        TerminalHouse house = new TerminalHouse(6, 20, 1);
        house.flags(2);
        house.key('a', true);
        house.ticks(1236);
        house.key('a', false);
        house.ticks(20);
        Check.due("READY is full", house.count(8), 300);
        int bells = house.state(8);
        Check.due("bells", bells > 0, true);
        house.flags(ALL);
        type(house, "\u0004");
        Check.due("an END has no room", house.count(8), 300);
        Check.due("a bell", house.state(8), bells + 1);
        Check.due("read", house.read(1), 1);
        type(house, "\n");
        Check.due("10 and END have no room", house.count(8), 299);
        Check.due("a bell", house.state(8), bells + 2);
        type(house, "\u0004");
        Check.due("an END has room", house.count(8), 300);
        Check.due("read", house.read(3), 3);
        type(house, "xy\n");
        Check.due("a line stays edited", house.count(7), 2);
        Check.due("a bell", house.state(8), bells + 3);
        Check.due("read", house.read(1), 1);
        type(house, "\n");
        Check.due("ready", house.count(8), 300);
        Check.due("read up to END", house.read(300), 295);
        Check.due("ready", house.count(8), 4);
        readIs(house, 300, "xy\n");
    }

    private static void readingParts() {
        TerminalHouse house = new TerminalHouse(6, 20, 1);
        type(house, "abcd\nef\n");
        readIs(house, 2, "ab");
        // all ahead of END are taken with these three, so it goes, too
        readIs(house, 3, "cd\n");
        Check.due("ready", house.count(8), 4);
        readIs(house, 2, "ef");
        readIs(house, 1, "\n");
        Check.due("ready", house.count(8), 0);
        type(house, "ab\n\u0004cd\n");
        house.flags(ALL - 1);
        readIs(house, 3, "ab\n");
        Check.due("ENDS behind the last one stay", house.count(8), 6);
        readIs(house, 1, "c");
        Check.due("ENDS ahead of it went", house.count(8), 3);
        readIs(house, 2, "d\n");
        Check.due("an END is left", house.count(8), 1);
        readIs(house, 5, "");
        Check.due("nothing is left", house.count(8), 0);
        Check.due("nothing is ready", house.read(5), -1);
        house.flags(ALL);
        type(house, "a\n\u0004");
        house.flags(ALL - 1);
        readIs(house, 9, "a\n");
        Check.due("with fewer than n all ENDS go", house.count(8), 0);
    }

    private static void linesOff() {
        TerminalHouse house = new TerminalHouse(6, 20, 1);
        type(house, "ab");
        Check.due("old", house.flags(ALL - 1), 127);
        Check.due("edited", house.count(7), 0);
        Check.due("ready, without END", house.count(8), 2);
        house.flags(ALL);
        type(house, "c\n");
        readIs(house, 9, "abc\n");
        house.flags(0);
        house.key('a', true);
        house.ticks(1200);
        house.key('a', false);
        house.ticks(20);
        int ready = house.count(8);
        house.flags(1);
        house.key('b', true);
        house.ticks(100);
        house.key('b', false);
        house.ticks(20);
        Check.due("more than there is room for", ready < 300 && ready + house.count(7) > 300, true);
        house.flags(0);
        Check.due("as far as there is room", house.count(8), 300);
        Check.due("edited", house.count(7), 0);
    }

    private static void raw() {
        TerminalHouse house = new TerminalHouse(6, 20, 1);
        house.flags(ALL - 1);
        type(house, "a\u007f\u0004\r\u0016\t");
        readIs(house, 20, "a\u007f\u0004\n\u0016\t");
        Check.due("row", Check.row(house, 0), "a^?^D");
        Check.due("row", Check.row(house, 1), "^V");
        Check.due("column", house.count(10), 8);
        type(house, "\u0003");
        Check.due("signals", house.count(9), 1);
    }
}
