/** Promise 32: key; how keys are SCANNED, repeat, and what they send. */
public final class KeysTest {
    private static final String ESC = Check.ESC;

    public static void main(String[] args) {
        whichKeys();
        sent();
        scanning();
        repeating();
        repeatsInPlace();
        noRoom();
        Check.finish("KeysTest");
    }

    private static void whichKeys() {
        TerminalHouse house = Check.plainHouse(4, 16);
        for (int k = -2; k < 130; k++) {
            boolean isKey = k >= 0 && k <= 28 || k >= 32 && k <= 126;
            Check.due("key " + k, house.key(k, true), isKey);
            Check.due("key " + k, house.key(k, false), isKey);
        }
        Check.due("key", house.key(Integer.MIN_VALUE, true), false);
        Check.due("key", house.key(Integer.MAX_VALUE, true), false);
        house.ticks(8);
        Check.due("up again before a scan", house.count(12), 0);
    }

    private static void sends(String modes, int key, boolean control, String want) {
        TerminalHouse house = Check.plainHouse(4, 16);
        Check.does(house, modes);
        house.key(28, control);
        house.ticks(4);
        house.key(key, true);
        house.ticks(20);
        Check.due("bytes of " + key, house.read(300), want.isEmpty() ? -1 : want.length());
        Check.due("key " + key, Check.out(house), want);
    }

    private static void sent() {
        for (int k = 0; k < 4; k++) {
            sends("", k, false, ESC + "[" + "ABCD".charAt(k));
            sends(ESC + "[?1h", k, false, ESC + "O" + "ABCD".charAt(k));
            sends(ESC + "=", k + 4, true, ESC + "O" + "PQRS".charAt(k));
        }
        for (int k = 8; k <= 20; k++) {
            sends("", k, true, "0123456789-,.".substring(k - 8, k - 7));
            sends(ESC + "=", k, false, ESC + "O" + "pqrstuvwxymln".charAt(k - 8));
        }
        String newline = ESC + "[20h";
        sends("", 21, false, "\r");
        sends(newline, 21, false, "\r\n");
        sends(ESC + "=" + newline, 21, false, ESC + "OM");
        sends(ESC + "=", 22, false, "\r");
        sends(newline, 22, false, "\r\n");
        sends("", 23, false, "\t");
        sends("", 24, false, "\b");
        sends("", 25, false, "\u007f");
        sends("", 26, false, ESC);
        sends("", 28, false, "");
        for (int k = 32; k <= 126; k++) {
            sends("", k, false, String.valueOf((char) k));
            boolean isControlled = k >= 64 && k <= 95 || k >= 97 && k <= 122;
            int due = k == 63 ? 127 : isControlled ? k % 32 : k;
            sends("", k, true, String.valueOf((char) due));
        }
        TerminalHouse house = new TerminalHouse(4, 16, 1);
        house.key(27, true);
        house.ticks(4);
        Check.due("held", house.state(11), 1);
    }

    private static void scanning() {
        TerminalHouse house = Check.plainHouse(4, 16);
        for (int k = 'g'; k >= 'a'; k--) {
            house.key(k, true);
        }
        house.ticks(3);
        Check.due("not yet", house.state(14) + house.count(12), 0);
        house.ticks(1);
        Check.due("three in one scan", house.state(14) + house.count(12), 3);
        Check.due("the last one repeats", house.state(18), 'c');
        house.ticks(4);
        Check.due("three more", house.state(14) + house.count(12), 6);
        house.ticks(10);
        Check.due("read", house.read(300), 7);
        Check.due("by numbers", Check.out(house), "abcdefg");
        // up and down between two scans is not seen
        house.key('a', false);
        house.key('a', true);
        house.ticks(8);
        Check.due("nothing", house.read(300), -1);
        house.key('a', false);
        house.ticks(4);
        house.key('a', true);
        house.ticks(8);
        Check.due("seen anew", house.read(300), 1);
        Check.due("28 counts as one of three", controlAndThree(), 2);
    }

    private static int controlAndThree() {
        TerminalHouse house = Check.plainHouse(4, 16);
        house.key(28, true);
        house.key('a', true);
        house.key('b', true);
        house.key('c', true);
        house.ticks(4);
        return house.state(14) + house.count(12);
    }

    private static void repeating() {
        TerminalHouse house = Check.plainHouse(4, 16);
        Check.due("none repeats", house.state(18), -1);
        house.key('a', true);
        house.ticks(4);
        Check.due("it repeats", house.state(18), 'a');
        house.ticks(31);
        Check.due("once", house.count(12), 1);
        house.ticks(1);
        Check.due("at 36", house.count(12), 2);
        house.ticks(40);
        Check.due("every 4", house.count(12), 12);
        house.key('a', false);
        house.ticks(3);
        Check.due("till it is seen up", house.state(18), 'a');
        house.ticks(1);
        Check.due("it repeats no more", house.state(18), -1);
        Check.due("no stroke of an upper key", house.count(12), 12);
        // without REPEAT it waits, and goes on at once
        house.key('b', true);
        Check.does(house, ESC + "[?8l");
        int sent = house.count(12);
        house.ticks(100);
        Check.due("REPEAT is off", house.count(12), sent);
        Check.due("it is the one that repeats", house.state(18), 'b');
        Check.does(house, ESC + "[?8h");
        Check.due("REPEAT is on", house.count(12) > sent + 5, true);
        int[] never = {22, 23, 26, 27, 28};
        for (int k : never) {
            TerminalHouse other = Check.plainHouse(4, 16);
            other.key(k, true);
            other.ticks(200);
            Check.due("no repeat of " + k, other.state(18), -1);
            Check.due("no repeat of " + k, other.count(12), k == 28 ? 0 : 1);
        }
        int[] ever = {0, 7, 8, 20, 21, 24, 25, 32, 126};
        for (int k : ever) {
            TerminalHouse other = Check.plainHouse(4, 16);
            other.key(k, true);
            other.ticks(4);
            Check.due("repeat of " + k, other.state(18), k);
        }
    }

    private static void repeatsInPlace() {
        TerminalHouse house = Check.plainHouse(4, 16);
        house.key('a', true);
        house.ticks(40);
        house.read(300);
        house.key('b', true);
        house.ticks(36);
        Check.due("read", house.read(300), 2);
        // the a of the 40th tick, and b once
        Check.due("b in place of a", Check.out(house), "ab");
        Check.due("it repeats", house.state(18), 'b');
        house.key('b', false);
        house.ticks(40);
        Check.due("a does not go on", house.state(18), -1);
        TerminalHouse other = Check.plainHouse(4, 16);
        other.key('a', true);
        other.ticks(40);
        other.key(23, true);
        other.ticks(4);
        Check.due("what repeated goes on", other.state(18), 'a');
        other.key(28, true);
        other.ticks(8);
        other.read(300);
        other.ticks(4);
        Check.due("read", other.read(300), 1);
        Check.due("now with 28", Check.out(other), "\u0001");
    }

    private static void noRoom() {
        TerminalHouse house = Check.plainHouse(4, 16);
        Check.does(house, "\u0013");
        for (int k = 0; k < 8; k++) {
            house.key(k, true);
        }
        house.key('a', true);
        house.key('b', true);
        house.key('c', true);
        house.ticks(16);
        Check.due("answers", house.state(14), 27);
        house.key(0, false);
        house.key(1, false);
        house.ticks(4);
        house.key(0, true);
        house.ticks(4);
        house.key(1, true);
        house.ticks(4);
        Check.due("two bytes of room are too few for three", house.state(14), 30);
        Check.due("a bell", house.state(8), 1);
        house.key('d', true);
        house.ticks(4);
        Check.due("one has room", house.state(14), 31);
        Check.due("a bell", house.state(8), 1);
    }
}
