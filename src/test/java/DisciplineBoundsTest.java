/** THE LINE DISCIPLINE, sentence by sentence: the bounds that the document names (promises 29 to 31). */
public final class DisciplineBoundsTest {
    private static final int ALL = 127;
    private static final int LINES = 1;
    private static final int ECHO = 2;
    private static final int RUB = 4;
    private static final int CR_TO_LF = 8;
    private static final int LF_TO_CRLF = 16;
    private static final int SIGNALS = 32;
    private static final int STOPS = 64;
    private static final int TABS_AS_BLANKS = 128;
    private static final int LEAST = Integer.MIN_VALUE;
    private static final int MOST = Integer.MAX_VALUE;

    public static void main(String[] args) {
        flags();
        columns();
        columnEnds();
        putting();
        queueRoom();
        carriageReturns();
        stopping();
        signals();
        withoutLines();
        everyByteWithLines();
        literal();
        words();
        allRubbed();
        anew();
        lineEnds();
        hundred();
        threeHundred();
        threeHundredLines();
        echoes();
        rubbedEchoes();
        rubbedTabs();
        reading();
        readingEnds();
        linesOff();
        Check.finish("DisciplineBoundsTest");
    }

    private static void type(TerminalHouse house, String text) {
        DisciplineTest.type(house, text);
    }

    private static TerminalHouse house(int flags) {
        TerminalHouse house = new TerminalHouse(6, 40, 1);
        house.flags(flags);
        return house;
    }

    /** A house whose QUEUE is STOPPED, so that what is PUT stays in it and can be counted. */
    private static TerminalHouse stopped(int flags) {
        TerminalHouse house = house(STOPS);
        type(house, "\u0013");
        Check.due("stopped", house.count(6), 1);
        house.flags(flags);
        return house;
    }

    private static void edited(TerminalHouse house, int edited, int ready) {
        Check.due("edited", house.count(7), edited);
        Check.due("ready", house.count(8), ready);
    }

    private static void put(String what, TerminalHouse house, int bytes, int column) {
        Check.due("bytes PUT by " + what, house.count(5), bytes);
        Check.due("COLUMN behind " + what, house.count(10), column);
    }

    private static void flags() {
        Check.says("FLAGS from now on (the lowest eight bits): the old ones.");
        TerminalHouse house = new TerminalHouse(4, 16, 1);
        int[] told = {0, 1, 128, 255, 256, 257, 511, -1, -256, LEAST, MOST, 127};
        int old = 127;
        for (int f : told) {
            Check.due("flags " + f, house.flags(f), old);
            old = f & 255;
            Check.due("count 17", house.count(17), old);
        }
    }

    private static void columns() {
        Check.says("13: 0; 10: 0 with LF TO CRLF, else as it is; 8: one less, if not 0; 9: the next multiple of 8; 32 .. 126: one more;"
            + " others: nothing.");
        for (int b = 0; b < 256; b++) {
            for (int flags = 0; flags <= LF_TO_CRLF; flags += LF_TO_CRLF) {
                TerminalHouse house = house(flags);
                Check.write(house, "abcde");
                Check.write(house, String.valueOf((char) b));
                int due = 5;
                switch (b) {
                    case 13: due = 0; break;
                    case 10: due = flags == 0 ? 5 : 0; break;
                    case 8: due = 4; break;
                    case 9: due = 8; break;
                    default: due = b >= 32 && b <= 126 ? 6 : 5; break;
                }
                Check.due("COLUMN behind " + b, house.count(10), due);
            }
        }
    }

    private static void columnEnds() {
        TerminalHouse house = house(0);
        Check.write(house, "\b");
        Check.due("8 at 0", house.count(10), 0);
        for (int at = 0; at < 17; at++) {
            Check.write(house, "\r" + "x".repeat(at) + "\t");
            Check.due("9 at " + at, house.count(10), at < 8 ? 8 : at < 16 ? 16 : 24);
        }
        Check.says("COLUMN (0 at first, at most 10000) is where what goes is");
        Check.due("at first", new TerminalHouse(4, 16, 1).count(10), 0);
        Check.write(house, "\r" + "\t".repeat(1249) + "1234567");
        Check.due("COLUMN", house.count(10), 9999);
        Check.write(house, "8");
        Check.due("COLUMN", house.count(10), 10000);
        Check.write(house, "9");
        Check.due("COLUMN", house.count(10), 10000);
        Check.write(house, "\t");
        Check.due("COLUMN", house.count(10), 10000);
        Check.write(house, "\b\t");
        Check.due("COLUMN", house.count(10), 10000);
        Check.write(house, "\b\b");
        Check.due("COLUMN", house.count(10), 9998);
    }

    private static void putting() {
        Check.says("TO PUT a byte: 10 with LF TO CRLF: 13, then 10 come to THE QUEUE; 9 with TABS AS BLANKS: as many 32 as it takes; others"
            + " themselves.");
        for (int flags = 0; flags < 256; flags += 16) {
            for (int at = 0; at < 10; at++) {
                TerminalHouse house = stopped(flags);
                Check.write(house, "x".repeat(at));
                int before = house.count(5);
                int blanks = (flags & TABS_AS_BLANKS) != 0 ? 8 - at % 8 : 1;
                Check.due("9 at " + at + " with " + flags, Check.write(house, "\t"), blanks);
                Check.due("queue", house.count(5), before + blanks);
                Check.due("COLUMN", house.count(10), at < 8 ? 8 : 16);
                Check.due("10 with " + flags, Check.write(house, "\n"), (flags & LF_TO_CRLF) != 0 ? 2 : 1);
                Check.due("13", Check.write(house, "\r"), 1);
                Check.due("nothing", house.write(), 0);
            }
        }
        TerminalHouse house = house(LF_TO_CRLF | TABS_AS_BLANKS);
        Check.due("all", Check.write(house, "ab\ncd\te\r\n"), 2 + 2 + 2 + 6 + 1 + 1 + 2);
        Check.rest(house);
        Check.due("row 0", Check.row(house, 0), "ab");
        Check.due("row 1", Check.row(house, 1), "cd      e");
        Check.due("row", house.state(0), 2);
        Check.due("column", house.state(1), 0);
        for (int b = 0; b < 256; b++) {
            if (b != 9 && b != 10) {
                Check.due("byte " + b, Check.write(house(255), String.valueOf((char) b)), 1);
            }
        }
    }

    private static void queueRoom() {
        Check.says("THE QUEUE has what goes to the terminal, at most 8000 bytes; a byte for which it has no room is lost.");
        TerminalHouse house = house(TABS_AS_BLANKS | LF_TO_CRLF);
        Check.due("7992", Check.write(house, "\t".repeat(999)), 7992);
        Check.due("7999", Check.write(house, "\r1234567"), 8);
        Check.due("lost", house.count(18), 0);
        Check.due("queue", house.count(5), 8000);
        Check.says("(Only what is PUT counts, lost or not; UPDATE's bytes do not.)");
        Check.due("one more", Check.write(house, "x"), 0);
        Check.due("lost", house.count(18), 1);
        Check.due("lost or not, it counts", house.count(10), 8);
        Check.due("a 13, and then a 10", Check.write(house, "\n"), 0);
        Check.due("lost", house.count(18), 3);
        Check.due("COLUMN", house.count(10), 0);
        house.ticks(1);
        Check.due("the 13 alone has room", Check.write(house, "\n"), 1);
        Check.due("lost", house.count(18), 4);
        house.ticks(5);
        Check.due("queue", house.count(5), 8000 - 5);
        Check.due("five of eight BLANKS", Check.write(house, "\t"), 5);
        Check.due("lost", house.count(18), 7);
        Check.due("COLUMN", house.count(10), 8);
        Check.due("queue", house.count(5), 8000);
    }

    private static void carriageReturns() {
        Check.says("13 with CR TO LF is 10 from now on (not behind 22).");
        TerminalHouse house = house(LINES | CR_TO_LF);
        type(house, "a\r");
        edited(house, 0, 3);
        DisciplineTest.readIs(house, 9, "a\n");
        type(house, "b\u0016\rc\n");
        DisciplineTest.readIs(house, 9, "b\rc\n");
        house = house(LINES);
        type(house, "a\r");
        edited(house, 2, 0);
        house = house(CR_TO_LF);
        type(house, "\r");
        DisciplineTest.readIs(house, 9, "\n");
        house = house(0);
        type(house, "\r");
        DisciplineTest.readIs(house, 9, "\r");
    }

    private static void stopping() {
        Check.says("With STOPS: 19: THE QUEUE is STOPPED; 17: it goes on; nothing else.");
        int[] modes = {STOPS, STOPS | LINES, STOPS | LINES | ECHO, ALL};
        for (int flags : modes) {
            TerminalHouse house = house(flags);
            type(house, "\u0013");
            Check.due("stopped", house.count(6), 1);
            edited(house, 0, 0);
            Check.write(house, "ab");
            house.ticks(50);
            Check.due("nothing is sent", house.count(5), 2);
            type(house, "\u0013");
            Check.due("stopped", house.count(6), 1);
            type(house, "\u0011");
            Check.due("it goes on", house.count(6), 0);
            type(house, "\u0011");
            Check.due("it goes on", house.count(6), 0);
            edited(house, 0, 0);
            house.ticks(5);
            Check.due("all is sent", house.count(5), 0);
            Check.due("no echo", Check.row(house, 0), "ab");
        }
        TerminalHouse house = house(ALL - STOPS);
        type(house, "\u0013\u0011");
        Check.due("not stopped", house.count(6), 0);
        edited(house, 2, 0);
        Check.due("echoed", Check.row(house, 0), "^S^Q");
        // a byte that is under way already comes all the same
        house = new TerminalHouse(4, 16, 16);
        house.key(28, true);
        house.key('S', true);
        house.ticks(19);
        Check.write(house, "ab");
        house.ticks(1);
        Check.due("stopped", house.count(6), 1);
        Check.due("nothing is sent in that very tick", house.count(11), 0);
    }

    private static void signals() {
        Check.says("3: a SIGNAL more; what is edited, READY, and in THE QUEUE goes, LITERAL is off, it goes on; then with ECHO ^ C and 10 are"
            + " PUT.");
        TerminalHouse house = stopped(ALL - ECHO);
        type(house, "line\rab");
        Check.write(house, "xyz");
        edited(house, 2, 6);
        type(house, "\u0003");
        Check.due("signals", house.count(9), 1);
        edited(house, 0, 0);
        Check.due("it goes on", house.count(6), 0);
        Check.due("queue", house.count(5), 0);
        Check.due("without ECHO nothing is PUT", Check.row(house, 0), "");
        Check.due("COLUMN", house.count(10), 3);
        Check.due("nothing to read", house.read(9), -1);
        house.flags(ALL);
        type(house, "\u0003\u0003");
        Check.due("signals", house.count(9), 3);
        Check.due("row 0", Check.row(house, 0), "^C");
        Check.due("row 1", Check.row(house, 1), "^C");
        Check.due("COLUMN", house.count(10), 0);
        house = house(SIGNALS);
        type(house, "ab\u0003c");
        Check.due("without LINES, too", house.count(9), 1);
        DisciplineTest.readIs(house, 9, "c");
        house = house(LINES | CR_TO_LF);
        type(house, "\u0003\r");
        Check.due("without SIGNALS", house.count(9), 0);
        DisciplineTest.readIs(house, 9, "\u0003\n");
    }

    private static void withoutLines() {
        Check.says("Else, without LINES: TAKEN.");
        for (int b = 0; b < 128; b++) {
            TerminalHouse house = house(ALL - LINES);
            type(house, "x" + (char) b);
            boolean isOther = b == 3 || b == 17 || b == 19;
            edited(house, 0, b == 3 ? 0 : isOther ? 1 : 2);
            Check.due("signals", house.count(9), b == 3 ? 1 : 0);
            if (!isOther) {
                DisciplineTest.readIs(house, 9, "x" + (b == 13 ? '\n' : (char) b));
            }
        }
        // 22 makes nothing LITERAL here
        TerminalHouse house = house(SIGNALS);
        type(house, "\u0016\u0003");
        Check.due("signals", house.count(9), 1);
    }

    private static void everyByteWithLines() {
        Check.says("With LINES: 22: LITERAL; with ECHO ^ and 8 are PUT. 127 or 8: RUBBED: the last byte that is edited goes.");
        for (int b = 0; b < 128; b++) {
            TerminalHouse house = house(ALL - ECHO);
            type(house, "a b" + (char) b);
            int edited = 4;
            int ready = 0;
            switch (b) {
                case 3: edited = 0; break;
                case 4: edited = 0; ready = 4; break;
                case 8: edited = 2; break;
                case 10: edited = 0; ready = 5; break;
                case 13: edited = 0; ready = 5; break;
                case 17: edited = 3; break;
                case 18: edited = 3; break;
                case 19: edited = 3; break;
                case 21: edited = 0; break;
                case 22: edited = 3; break;
                case 23: edited = 2; break;
                case 127: edited = 2; break;
                default: break;
            }
            edited(house, edited, ready);
            Check.due("stopped", house.count(6), b == 19 ? 1 : 0);
            Check.due("nothing is PUT", house.count(10), 0);
        }
    }

    private static void literal() {
        Check.says("Else, if LITERAL: it is off, c is TAKEN.");
        String controls = "\0\u0003\u0004\b\n\u0012\u0015\u0016\u0017\u007f";
        for (char c : controls.toCharArray()) {
            TerminalHouse house = house(ALL);
            type(house, "a\u0016" + c);
            edited(house, 2, 0);
            Check.due("signals", house.count(9), 0);
            type(house, "\u007f");
            edited(house, 1, 0);
        }
        TerminalHouse house = stopped(ALL);
        type(house, "\u0016");
        put("22", house, 2, 0);
        house.flags(ALL - ECHO);
        type(house, "\u0003");
        edited(house, 1, 0);
        Check.due("flags that keep LINES keep LITERAL", house.count(9), 0);
        house = stopped(ALL - ECHO);
        type(house, "\u0016");
        put("22 without ECHO", house, 0, 0);
        // 19 and 17 are no bytes that are TAKEN, and LITERAL stays
        house = house(ALL);
        type(house, "\u0016\u0013\u0011\u0003");
        edited(house, 1, 0);
        Check.due("signals", house.count(9), 0);
        house = house(ALL - STOPS);
        type(house, "\u0016\u0013\u0003");
        edited(house, 0, 0);
        Check.due("signals", house.count(9), 1);
        // LINES off puts it off
        house = house(ALL);
        type(house, "\u0016");
        house.flags(ALL - LINES);
        house.flags(ALL);
        type(house, "\u0003");
        Check.due("signals", house.count(9), 1);
    }

    private static void word(String text, int left) {
        TerminalHouse house = house(ALL - ECHO);
        type(house, text + "\u0017");
        Check.due("left of " + text, house.count(7), left);
        house = house(ALL);
        type(house, text);
        int column = house.count(10);
        type(house, "\u0017");
        Check.due("left of " + text, house.count(7), left);
        Check.due("COLUMN is less", house.count(10) < column, text.length() > left);
    }

    private static void words() {
        Check.says("23: BLANKS (9, 32) at its end are RUBBED, then all up to a BLANK.");
        word("", 0);
        word("a", 0);
        word("abc", 0);
        word(" ", 0);
        word("   ", 0);
        word("\t", 0);
        word(" \t ", 0);
        word("a ", 0);
        word("a \t", 0);
        word(" a", 1);
        word("\ta", 1);
        word("ab cd", 3);
        word("ab\tcd", 3);
        word("ab  cd  ", 4);
        word("ab cd\t \t", 3);
        word("a.b-c", 0);
        word("a b\u0001", 2);
    }

    private static void allRubbed() {
        Check.says("21: all is RUBBED.");
        TerminalHouse house = stopped(ALL);
        type(house, "\u0015\u0015");
        put("21 of nothing", house, 0, 0);
        type(house, "\u007f\b\u0017");
        put("127, 8 and 23 of nothing", house, 0, 0);
        type(house, "ab");
        put("ab", house, 2, 2);
        type(house, "\u0015");
        put("21", house, 8, 0);
        edited(house, 0, 0);
        type(house, "c\b");
        put("8", house, 12, 0);
        type(house, "d\u007f");
        put("127", house, 16, 0);
        Check.says("Without RUB nothing is PUT.");
        house = stopped(ALL - RUB);
        type(house, "a\u0001\t\b\u007f\u0017");
        put("rubbing without RUB", house, 4, 8);
        edited(house, 0, 0);
        house = stopped(ALL - ECHO);
        type(house, "a\u0001\t\b\u007f\u0017");
        put("rubbing without ECHO", house, 0, 0);
        edited(house, 0, 0);
    }

    private static void anew() {
        Check.says("18: with ECHO ^ R and 10 are PUT, COLUMN at that is where the line begins now, then what is edited is ECHOED anew.");
        TerminalHouse house = stopped(ALL);
        type(house, "\u0012");
        put("18 of nothing", house, 4, 0);
        type(house, "a\u0001");
        put("a 1", house, 7, 3);
        type(house, "\u0012");
        put("18", house, 14, 3);
        edited(house, 2, 0);
        house = stopped(ALL - ECHO);
        type(house, "a\u0012");
        put("18 without ECHO", house, 0, 0);
        edited(house, 1, 0);
        // where the line begins: at 4 first, behind an 18 at 0
        house = house(ALL);
        Check.write(house, "1234");
        type(house, "a\t\b");
        Check.due("from 4 on", house.count(10), 5);
        type(house, "\u0012\t\b");
        Check.due("from 0 on", house.count(10), 1);
        // without LF TO CRLF the column stays as it was: at 6, behind ^R
        house = house(ALL - LF_TO_CRLF);
        Check.write(house, "123");
        type(house, "a\u0012");
        Check.due("behind 123a^R and a", house.count(10), 7);
        type(house, "\t");
        Check.due("behind the tab", house.count(10), 8);
        type(house, "\b");
        Check.due("from 6 on", house.count(10), 7);
    }

    private static void lineEnds() {
        Check.says("4: what is edited is READY, with an END behind it. 10: with it, an END behind it; with ECHO 10 is PUT.");
        TerminalHouse house = stopped(ALL);
        type(house, "\u0004");
        edited(house, 0, 1);
        put("4", house, 0, 0);
        type(house, "\n");
        edited(house, 0, 3);
        put("10", house, 2, 0);
        type(house, "ab\u0004");
        edited(house, 0, 6);
        put("ab 4", house, 4, 2);
        type(house, "c\n");
        edited(house, 0, 9);
        put("c 10", house, 7, 0);
        DisciplineTest.readIs(house, 9, "");
        DisciplineTest.readIs(house, 9, "\n");
        DisciplineTest.readIs(house, 9, "ab");
        DisciplineTest.readIs(house, 9, "c\n");
        Check.due("no more", house.read(9), -1);
        house = stopped(ALL - ECHO);
        type(house, "\n");
        put("10 without ECHO", house, 0, 0);
    }

    /** A key that repeats makes many bytes with few calls: so many (each four ticks one, the first ones 32). */
    private static void many(TerminalHouse house, int key, int n) {
        house.ticks(4 - house.count(0) % 4);
        house.key(key, true);
        house.ticks(4);
        if (n > 1) {
            house.ticks(32 + 4 * (n - 2));
        }
        house.key(key, false);
        house.ticks(40);
    }

    private static void hundred() {
        Check.says("TAKEN: with LINES it comes behind what is edited (at most 100 bytes: if it has so many, 7 is PUT instead)");
        TerminalHouse house = house(ALL);
        many(house, 'a', 99);
        edited(house, 99, 0);
        type(house, "b");
        edited(house, 100, 0);
        Check.due("no bell", house.state(8), 0);
        Check.due("COLUMN", house.count(10), 100);
        type(house, "c");
        edited(house, 100, 0);
        Check.due("a bell", house.state(8), 1);
        Check.due("COLUMN", house.count(10), 100);
        type(house, "\u0016\u0001");
        edited(house, 100, 0);
        Check.due("a bell", house.state(8), 2);
        house.flags(ALL - ECHO);
        type(house, "d");
        Check.due("a bell without ECHO", house.state(8), 3);
        type(house, "\bd");
        edited(house, 100, 0);
        Check.due("room again", house.state(8), 3);
        type(house, "\n");
        edited(house, 0, 102);
        Check.due("read", house.read(300), 101);
        Check.due("the first", house.octet(0), 'a');
        Check.due("the hundredth", house.octet(99), 'd');
        Check.due("the 10", house.octet(100), 10);
    }

    private static void threeHundred() {
        Check.says("READY has at most 300 bytes and ENDS: what has no room wholly (a line with its END; a byte) is lost, with 7 PUT in place of"
            + " ECHOING");
        TerminalHouse house = house(ECHO);
        many(house, 'a', 299);
        edited(house, 0, 299);
        type(house, "b");
        edited(house, 0, 300);
        Check.due("no bell", house.state(8), 0);
        Check.due("COLUMN", house.count(10), 300);
        type(house, "c");
        edited(house, 0, 300);
        Check.due("a bell", house.state(8), 1);
        Check.due("not echoed", house.count(10), 300);
        Check.due("read", house.read(1), 1);
        type(house, "d");
        edited(house, 0, 300);
        Check.due("no bell", house.state(8), 1);
        Check.due("read", house.read(300), 300);
        Check.due("the last ones", house.octet(298) * 256 + house.octet(299), 'b' * 256 + 'd');
        edited(house, 0, 0);
    }

    private static void threeHundredLines() {
        Check.says("(of a line: it stays edited, the 10 or 4 is lost)");
        TerminalHouse house = house(ECHO);
        many(house, 'a', 299);
        house.flags(ALL);
        type(house, "\n");
        edited(house, 0, 299);
        Check.due("a bell for 10 and END", house.state(8), 1);
        type(house, "\u0004");
        edited(house, 0, 300);
        Check.due("room for an END", house.state(8), 1);
        type(house, "\u0004");
        edited(house, 0, 300);
        Check.due("a bell for an END", house.state(8), 2);
        Check.due("read", house.read(4), 4);
        type(house, "xyz");
        int column = house.count(10);
        type(house, "\n");
        edited(house, 3, 296);
        Check.due("a bell for xyz, 10 and END", house.state(8), 3);
        Check.due("the 10 is not PUT", house.count(10), column);
        type(house, "\b\n");
        edited(house, 0, 300);
        Check.due("room for xy, 10 and END", house.state(8), 3);
        Check.due("read up to the first END", house.read(300), 295);
        edited(house, 0, 4);
        DisciplineTest.readIs(house, 300, "xy\n");
        many(house, 'b', 100);
        type(house, "\n");
        many(house, 'b', 100);
        type(house, "\n");
        edited(house, 0, 204);
        many(house, 'b', 96);
        type(house, "\u0004");
        edited(house, 96, 204);
        Check.due("97 have no room", house.state(8), 4);
        type(house, "\b\u0004");
        edited(house, 0, 300);
        Check.due("96 have", house.state(8), 4);
    }

    private static void echoes() {
        Check.says("ECHOED (with ECHO): 9, 32 .. 126, and 10: PUT; others ^ and the byte with bit 64 turned.");
        for (int b = 0; b < 128; b++) {
            TerminalHouse house = house(ECHO);
            type(house, String.valueOf((char) b));
            int column = b >= 32 && b <= 126 ? 1 : b == 9 ? 8 : b == 10 ? 0 : 2;
            String row = b >= 32 && b <= 126 ? String.valueOf((char) b) : b == 9 || b == 10 ? "" : "^" + (char) (b ^ 64);
            Check.due("row behind " + b, Check.row(house, 0), row.equals(" ") ? "" : row);
            Check.due("COLUMN behind " + b, house.count(10), column);
            Check.due("bytes sent", house.count(11), column == 2 ? 2 : 1);
            house = house(0);
            type(house, String.valueOf((char) b));
            Check.due("without ECHO", house.count(11), 0);
        }
    }

    private static void rubbedEchoes() {
        Check.says("RUBBED with ECHO and RUB: of a byte 32 .. 126: 8, 32, 8 are PUT; of a 9: 8 as many times as COLUMN is above where it would be"
            + " without it; of 10 nothing; of others 8, 32, 8 twice.");
        int[] bytes = {0, 1, 31, 32, 33, 126, 127, 10, 13, 27};
        for (int b : bytes) {
            TerminalHouse house = stopped(LINES | ECHO | RUB);
            type(house, "a\u0016" + (char) b);
            int before = house.count(5);
            int column = house.count(10);
            type(house, "\u007f");
            int due = b == 10 ? 0 : b >= 32 && b <= 126 ? 3 : 6;
            put("rubbing " + b, house, before + due, column - due / 3);
            edited(house, 1, 0);
            house.flags(ALL);
            type(house, "\u0011");
            house.ticks(40);
            Check.due("row", Check.row(house, 0), b == 10 ? "a^" : "a");
        }
    }

    private static void rubbedTab(int flags, String written, String typed, int without) {
        TerminalHouse house = stopped(LINES | ECHO | RUB | flags);
        Check.write(house, written);
        type(house, typed);
        type(house, "\t");
        int before = house.count(5);
        int column = house.count(10);
        type(house, "\b");
        put("rubbing a tab behind " + typed, house, before + Math.max(0, column - without), Math.min(column, without));
    }

    private static void rubbedTabs() {
        Check.says("Where COLUMN would be without it: from where the line begins (COLUMN as the first byte of what is edited was taken, behind an"
            + " 18 as told) along what is edited still, each as ECHOED (a 10: as PUT).");
        String text = "abcdefghijklmnopq";
        for (int n = 0; n <= 17; n++) {
            rubbedTab(0, "", text.substring(0, n), n);
        }
        for (int n = 0; n <= 9; n++) {
            rubbedTab(0, "x".repeat(n), "ab", n + 2);
        }
        rubbedTab(TABS_AS_BLANKS, "", "abc", 3);
        rubbedTab(TABS_AS_BLANKS, "12345", "\tabc", 11);
        rubbedTab(0, "12345", "\t\t", 16);
        rubbedTab(0, "123", "\u0001a", 6);
        rubbedTab(0, "123", "a\u0016\nbc", 6);
        rubbedTab(LF_TO_CRLF, "123", "a\u0016\nbc", 2);
        rubbedTab(0, "\u0007\0", "\u0016\u007fa", 3);
        // all was rubbed: the line begins anew, where COLUMN is
        TerminalHouse house = house(LINES | ECHO | RUB);
        type(house, "ab\u0015");
        Check.write(house, "xyz");
        type(house, "\t\b");
        Check.due("from 3 on", house.count(10), 3);
        // COLUMN is not above it: nothing is PUT
        house = stopped(LINES | ECHO | RUB);
        Check.write(house, "1234567890");
        type(house, "\t");
        Check.write(house, "\r");
        int before = house.count(5);
        type(house, "\b");
        put("a tab that is above", house, before, 0);
        edited(house, 0, 0);
    }

    private static void reading() {
        Check.says("READING up to n (1 .. 300) bytes, to THE OUT: how many (0 for ENDS alone); NONE if nothing is READY, or n is another one (THE OUT"
            + " stays).");
        TerminalHouse house = house(ALL);
        Check.due("nothing is READY", house.read(1), -1);
        type(house, "ab");
        Check.due("what is edited is not READY", house.read(1), -1);
        type(house, "\ncd\n");
        DisciplineTest.readIs(house, 1, "a");
        int[] wrong = {LEAST, -300, -1, 0, 301, 302, MOST};
        for (int n : wrong) {
            Check.due("read " + n, house.read(n), -1);
        }
        edited(house, 0, 7);
        Check.due("THE OUT stays", Check.out(house), "a");
        DisciplineTest.readIs(house, 300, "b\n");
        edited(house, 0, 4);
        DisciplineTest.readIs(house, 3, "cd\n");
        edited(house, 0, 0);
        Check.due("nothing is READY", house.read(300), -1);
        Check.due("THE OUT stays", Check.out(house), "cd\n");
        type(house, "\u0004");
        Check.due("an END alone", house.read(300), 0);
        Check.due("THE OUT is empty", Check.throwsAt(house, 0), true);
        edited(house, 0, 0);
    }

    private static void readingEnds() {
        Check.says("with LINES (now): the first bytes that are READY up to an END, which goes too when all ahead of it are taken (perhaps none);"
            + " without LINES: bytes, passing over ENDS ahead of the last one taken, or all, if there are fewer than n bytes (which go).");
        TerminalHouse house = house(ALL);
        type(house, "ab\u0004\u0004\u0004c\u0004d\u0004");
        edited(house, 0, 9);
        DisciplineTest.readIs(house, 1, "a");
        edited(house, 0, 8);
        DisciplineTest.readIs(house, 1, "b");
        edited(house, 0, 6);
        DisciplineTest.readIs(house, 5, "");
        edited(house, 0, 5);
        house.flags(ALL - LINES);
        DisciplineTest.readIs(house, 1, "c");
        edited(house, 0, 3);
        house.flags(ALL);
        DisciplineTest.readIs(house, 1, "");
        edited(house, 0, 2);
        DisciplineTest.readIs(house, 2, "d");
        edited(house, 0, 0);
        type(house, "\u0004ab\u0004\u0004c\u0004\u0004");
        house.flags(ALL - LINES);
        DisciplineTest.readIs(house, 3, "abc");
        edited(house, 0, 2);
        DisciplineTest.readIs(house, 1, "");
        edited(house, 0, 0);
        Check.due("nothing is READY", house.read(1), -1);
        house.flags(ALL);
        type(house, "ab\u0004\u0004");
        house.flags(ALL - LINES);
        DisciplineTest.readIs(house, 3, "ab");
        edited(house, 0, 0);
        // bytes without an END, read with LINES
        type(house, "xyz");
        house.flags(ALL);
        DisciplineTest.readIs(house, 2, "xy");
        DisciplineTest.readIs(house, 2, "z");
        edited(house, 0, 0);
    }

    private static void linesOff() {
        Check.says("When LINES is turned off what is edited becomes READY (as far as there is room, without an END); LITERAL is off.");
        TerminalHouse house = house(ALL);
        type(house, "abc");
        house.flags(ALL - ECHO);
        edited(house, 3, 0);
        house.flags(0);
        edited(house, 0, 3);
        house.flags(0);
        edited(house, 0, 3);
        house.flags(LINES);
        edited(house, 0, 3);
        house.flags(0);
        DisciplineTest.readIs(house, 9, "abc");
        many(house, 'a', 298);
        house.flags(LINES);
        type(house, "bcd");
        edited(house, 3, 298);
        house.flags(0);
        edited(house, 0, 300);
        Check.due("read", house.read(300), 300);
        Check.due("the first ones had room", house.octet(298) * 256 + house.octet(299), 'b' * 256 + 'c');
        many(house, 'a', 297);
        house.flags(LINES);
        type(house, "bcd");
        house.flags(0);
        edited(house, 0, 300);
        Check.due("read", house.read(300), 300);
        Check.due("all had room", house.octet(299), 'd');
    }
}
