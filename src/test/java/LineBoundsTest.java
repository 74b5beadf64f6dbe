/** THE LINE and the KEYS, sentence by sentence: the bounds that the document names (promises 32 to 34). */
public final class LineBoundsTest {
    private static final String ESC = Check.ESC;
    private static final int STOPS = 64;
    private static final int LEAST = Integer.MIN_VALUE;
    private static final int MOST = Integer.MAX_VALUE;

    public static void main(String[] args) {
        ticks();
        speeds();
        bothWays();
        orderInATick();
        spoiled();
        spoiledToProgram();
        hushed();
        silo();
        full();
        fullAndHeld();
        lastTold();
        acts();
        busy();
        answers();
        whichKeys();
        threeInAScan();
        seen();
        repeats();
        repeatTimes();
        repeatMode();
        neverRepeating();
        noRoom();
        controlled();
        everyKey();
        Check.finish("LineBoundsTest");
    }

    private static TerminalHouse plain() {
        return Check.plainHouse(4, 16);
    }

    private static void ticks() {
        Check.says("Up to n TICKS (1 .. 2000): how many; fewer if TIME would be above 1000000000. NONE for another n.");
        TerminalHouse house = plain();
        int[] wrong = {LEAST, -2000, -1, 0, 2001, 2002, 65536 + 5, MOST};
        for (int n : wrong) {
            Check.due("ticks " + n, house.ticks(n), -1);
            Check.due("TIME", house.count(0), 0);
        }
        int[] right = {1, 2, 1999, 2000};
        int time = 0;
        for (int n : right) {
            Check.due("ticks " + n, house.ticks(n), n);
            time += n;
            Check.due("TIME", house.count(0), time);
        }
    }

    private static void speeds() {
        Check.says("Each way carries one byte at a time, which ARRIVES SPEED ticks behind its sending.");
        for (int speed = 1; speed <= 16; speed++) {
            TerminalHouse house = new TerminalHouse(4, 16, speed);
            house.flags(0);
            Check.write(house, "abc");
            house.ticks(1);
            Check.due("the first is sent", house.count(11), 1);
            if (speed > 1) {
                house.ticks(speed - 1);
            }
            Check.due("under way", Check.row(house, 0), "");
            Check.due("one at a time", house.count(11), 1);
            house.ticks(1);
            Check.due("there, and done", Check.row(house, 0), "a");
            Check.due("the next is sent", house.count(11), 2);
            house.ticks(2 * speed);
            Check.due("all", Check.row(house, 0), "abc");
            house.ticks(4 - house.count(0) % 4);
            house.key('x', true);
            house.ticks(4);
            Check.due("sent as it is struck", house.count(12), 1);
            if (speed > 1) {
                house.ticks(speed - 1);
            }
            Check.due("under way", house.count(8), 0);
            house.ticks(1);
            Check.due("come", house.count(8), 1);
        }
    }

    private static void bothWays() {
        TerminalHouse house = new TerminalHouse(4, 16, 5);
        house.flags(0);
        house.key('x', true);
        Check.write(house, "ab");
        house.ticks(4);
        Check.due("sent to the terminal", house.count(11), 1);
        Check.due("sent to the program", house.count(12), 1);
        house.ticks(5);
        Check.due("there", house.screen(0, 0), 'a');
        Check.due("come", house.count(8), 1);
    }

    private static void orderInATick() {
        Check.says("A TICK: TIME is one more; what ARRIVES now from the program comes to the terminal; what ARRIVES from the terminal COMES to the line discipline; if"
            + " TIME is a multiple of 4 keys are SCANNED; the terminal ACTS; then, if its way is free, the terminal sends; if the other way is free, and THE"
            + " QUEUE is not STOPPED, its first byte is sent.");
        // what arrives is done, and answered, in one tick
        TerminalHouse house = plain();
        Check.write(house, ESC + "[5n");
        house.ticks(4);
        Check.due("not yet answered", house.count(12) + house.state(14), 0);
        house.ticks(1);
        Check.due("answered and sent", house.count(12), 1);
        Check.due("three are left", house.state(14), 3);
        // what comes is echoed, and the echo sent, in one tick
        house = new TerminalHouse(4, 16, 1);
        house.key('a', true);
        house.ticks(4);
        Check.due("on its way", house.count(12), 1);
        Check.due("no echo", house.count(11), 0);
        house.ticks(1);
        Check.due("edited", house.count(7), 1);
        Check.due("the echo is sent", house.count(11), 1);
        Check.due("and no more in THE QUEUE", house.count(5), 0);
        // a byte arrives ahead of the SCAN that ends HELD, and of what is done then: FULL by 48, though 47 are left
        house = heldHouse(0);
        Check.write(house, "x".repeat(47));
        house.ticks(54);
        Check.due("TIME", house.count(0) % 4, 2);
        Check.due("47", house.state(9), 47);
        Check.write(house, "y");
        house.key(27, true);
        house.ticks(2);
        Check.due("HELD no more", house.state(11), 0);
        Check.due("47", house.state(9), 47);
        Check.due("FULL", house.state(13), 1);
        // a 19 that arrives hushes what would be sent in that tick
        house = plain();
        house.ticks(2);
        Check.write(house, "\u0013");
        house.key('a', true);
        house.ticks(2);
        Check.due("HUSHED", house.state(12), 1);
        Check.due("struck, but not sent", house.state(14), 1);
    }

    private static void spoiled() {
        Check.says("The byte that is under way to the terminal (way 0), to the program (1) will be SPOILED: true; false if there is none, or no such"
            + " way.");
        int[] wrong = {LEAST, -1, 2, 3, 256, MOST};
        TerminalHouse house = new TerminalHouse(4, 16, 4);
        house.flags(0);
        for (int way = 0; way < 2; way++) {
            Check.due("nothing is under way", house.spoil(way), false);
        }
        Check.write(house, "ab");
        Check.due("in THE QUEUE is not under way", house.spoil(0), false);
        house.ticks(1);
        for (int way : wrong) {
            Check.due("spoil " + way, house.spoil(way), false);
        }
        Check.due("nothing to the program", house.spoil(1), false);
        house.ticks(4);
        Check.due("a was not spoiled", house.screen(0, 0), 'a');
        Check.due("b will be", house.spoil(0), true);
        Check.due("and is not yet", house.state(9), 0);
        Check.due("once more", house.spoil(0), true);
        house.ticks(4);
        Check.due("b was", house.screen(0, 1), 225);
        Check.due("nothing is under way", house.spoil(0), false);
        Check.write(house, "c");
        house.ticks(5);
        Check.due("c was not", house.screen(0, 2), 'c');
        Check.says("others (SPOILED ones, too: as 256, whatever they were) go into THE SILO");
        char[] all = {0, 7, 17, 19, 24, 27, 127, 255, 'x'};
        for (char c : all) {
            house = new TerminalHouse(4, 16, 1);
            house.flags(0);
            Check.write(house, String.valueOf(c));
            house.ticks(1);
            house.spoil(0);
            house.ticks(1);
            Check.due("SIGN for a spoiled " + (int) c, house.screen(0, 0), 225);
            Check.due("HUSHED", house.state(12), 0);
            Check.due("bells", house.state(8), 0);
            Check.due("reading", house.state(15), 0);
        }
    }

    private static void spoiledToProgram() {
        Check.says("A byte c COMES from the terminal (one that is spoiled is nothing)");
        int[] keys = {'x', 'S', 'C', '@', 'V'};
        for (int key : keys) {
            TerminalHouse house = new TerminalHouse(4, 16, 4);
            house.key(28, true);
            house.key(key, true);
            house.ticks(4);
            house.key(key, false);
            Check.due("spoil", house.spoil(1), true);
            Check.due("not the other way", house.spoil(0), false);
            house.ticks(4);
            Check.due("edited", house.count(7), 0);
            Check.due("ready", house.count(8), 0);
            Check.due("stopped", house.count(6), 0);
            Check.due("signals", house.count(9), 0);
            Check.due("nothing is PUT", house.count(5) + house.count(11), 0);
            Check.due("nothing is under way", house.spoil(1), false);
            house.key(28, false);
            house.ticks(4);
            house.key('y', true);
            house.ticks(8);
            Check.due("the next one comes", house.count(7), 1);
        }
    }

    private static void hushed() {
        Check.says("A byte that comes to it: 19: HUSHED, 17: not HUSHED");
        TerminalHouse house = plain();
        Check.write(house, "\u0011");
        house.ticks(2);
        Check.due("not HUSHED", house.state(12), 0);
        Check.write(house, "\u0013\u0013");
        house.ticks(3);
        Check.due("HUSHED", house.state(12), 1);
        Check.due("not in THE SILO", house.state(9), 0);
        house.key('x', true);
        house.ticks(20);
        house.key('x', false);
        Check.due("ANSWERS wait", house.state(14), 1);
        Check.due("nothing is sent", house.count(12), 0);
        Check.write(house, "\u0011");
        house.ticks(2);
        Check.due("not HUSHED", house.state(12), 0);
        Check.due("sent at once", house.count(12), 1);
        // HUSHED also while it is BUSY, HELD, or within a sequence
        house = plain();
        Check.write(house, ESC + "[\u0013");
        house.ticks(5);
        Check.due("HUSHED", house.state(12), 1);
        Check.due("the sequence goes on", house.state(15), 3);
        house.key(27, true);
        house.ticks(4);
        Check.write(house, "\u0011");
        house.ticks(4);
        Check.due("not HUSHED, though HELD", house.state(12), 0);
    }

    /** A terminal that is HELD, so that THE SILO fills. */
    private static TerminalHouse heldHouse(int flags) {
        TerminalHouse house = plain();
        house.flags(flags);
        house.key(27, true);
        house.ticks(4);
        house.key(27, false);
        house.ticks(8);
        Check.due("HELD", house.state(11), 1);
        return house;
    }

    private static void release(TerminalHouse house) {
        house.key(27, true);
        house.ticks(4 - house.count(0) % 4);
    }

    private static void silo() {
        Check.says("THE SILO, which has room for 64 (one more is lost)");
        TerminalHouse house = heldHouse(0);
        Check.write(house, "x".repeat(63));
        house.ticks(70);
        Check.due("silo", house.state(9), 63);
        Check.write(house, "y");
        house.ticks(5);
        Check.due("silo", house.state(9), 64);
        Check.due("lost", house.state(16), 0);
        Check.write(house, "z");
        house.ticks(5);
        Check.due("silo", house.state(9), 64);
        Check.due("lost", house.state(16), 1);
        Check.write(house, "\u0013");
        house.ticks(5);
        Check.due("19 needs no room", house.state(12), 1);
        Check.due("lost", house.state(16), 1);
        Check.write(house, "zz");
        house.ticks(5);
        Check.due("lost", house.state(16), 3);
        release(house);
        house.ticks(100);
        Check.due("silo", house.state(9), 0);
        Check.due("the last one", house.screen(3, 15), 'y');
    }

    private static void full() {
        Check.says("FULL: from when THE SILO has 48 or more, till it has 16 or less");
        TerminalHouse house = heldHouse(0);
        Check.write(house, "x".repeat(47));
        house.ticks(60);
        Check.due("47", house.state(9), 47);
        Check.due("HELD alone", house.state(13), 2);
        Check.write(house, "x");
        house.ticks(2);
        Check.due("48", house.state(9), 48);
        Check.due("FULL and HELD", house.state(13), 3);
        release(house);
        Check.due("47", house.state(9), 47);
        Check.due("FULL still", house.state(13), 1);
        house.ticks(30);
        Check.due("17", house.state(9), 17);
        Check.due("FULL still", house.state(13), 1);
        house.ticks(1);
        Check.due("16", house.state(9), 16);
        Check.due("no CAUSE", house.state(13), 0);
        // between 16 and 48 it is as it was
        house = heldHouse(0);
        Check.write(house, "x".repeat(30));
        house.ticks(40);
        Check.due("30", house.state(9), 30);
        Check.due("HELD alone", house.state(13), 2);
        release(house);
        Check.due("no CAUSE", house.state(13), 0);
    }

    private static void fullAndHeld() {
        Check.says("The terminal sends 19 if there is a CAUSE and it told none last, 17 if there is none and it told one last (at first none); else,"
            + " if it is not HUSHED, the first byte of ANSWERS.");
        TerminalHouse house = plain();
        house.ticks(20);
        Check.due("at first nothing", house.count(12), 0);
        house = heldHouse(0);
        Check.due("19", house.count(12), 1);
        Check.write(house, "x".repeat(50));
        house.ticks(60);
        Check.due("one more CAUSE is not told", house.count(12), 1);
        release(house);
        house.ticks(10);
        Check.due("FULL still: not told", house.count(12), 1);
        house.ticks(60);
        Check.due("17", house.count(12), 2);
        house.key(27, false);
        house.ticks(8);
        house.key(27, true);
        house.ticks(8);
        Check.due("19 anew", house.count(12), 3);
        Check.due("read", house.read(9), 3);
        Check.due("told", Check.out(house), "\u0013\u0011\u0013");
        // ahead of ANSWERS, and also while HUSHED
        house = plain();
        Check.write(house, "\u0013");
        house.ticks(3);
        house.key('a', true);
        house.key(27, true);
        house.ticks(9);
        Check.due("ANSWERS wait", house.state(14), 1);
        Check.due("19", house.count(12), 1);
        Check.write(house, "\u0011");
        house.ticks(8);
        Check.due("read", house.read(9), 2);
        Check.due("19 first", Check.out(house), "\u0013a");
    }

    private static void lastTold() {
        // a CAUSE that comes and goes while the way is taken is never told
        TerminalHouse house = new TerminalHouse(4, 16, 16);
        house.flags(0);
        house.key('a', true);
        house.ticks(4);
        Check.due("a is under way", house.count(12), 1);
        house.key('a', false);
        house.key(27, true);
        house.ticks(4);
        Check.due("HELD", house.state(13), 2);
        house.key(27, false);
        house.ticks(4);
        house.key(27, true);
        house.ticks(4);
        Check.due("HELD no more", house.state(13), 0);
        house.ticks(40);
        Check.due("nothing was told", house.count(12), 1);
        // 19 that is under way is not taken back: 17 comes behind it
        house = new TerminalHouse(4, 16, 16);
        house.flags(STOPS);
        house.key(27, true);
        house.ticks(4);
        house.key(27, false);
        house.ticks(4);
        house.key(27, true);
        house.ticks(4);
        Check.due("HELD no more", house.state(13), 0);
        house.ticks(8);
        Check.due("19 came", house.count(6), 1);
        house.ticks(15);
        Check.due("17 is under way", house.count(12), 2);
        house.ticks(1);
        Check.due("17 came", house.count(6), 0);
    }

    private static void acts() {
        Check.says("The terminal ACTS: if it is BUSY, BUSY is one less; else, if it is not HELD and THE SILO is not empty, its first byte is done.");
        TerminalHouse house = heldHouse(0);
        Check.write(house, "ab");
        house.ticks(20);
        Check.due("HELD: nothing is done", house.state(9), 2);
        release(house);
        Check.due("one a tick", house.state(9), 1);
        house.ticks(1);
        Check.due("one a tick", house.state(9), 0);
        // BUSY goes on while HELD
        house = plain();
        Check.write(house, "abc" + ESC + "#8x");
        house.ticks(7);
        Check.due("BUSY", house.state(10), 2);
        house.key(27, true);
        house.ticks(1);
        Check.due("HELD", house.state(11), 1);
        Check.due("BUSY", house.state(10), 1);
        house.ticks(20);
        Check.due("BUSY", house.state(10), 0);
        Check.due("x waits", house.state(9), 1);
        // HELD in the very tick in which a byte arrives: keys are SCANNED ahead of that
        house = plain();
        Check.write(house, "abc");
        house.ticks(3);
        house.key(27, true);
        house.ticks(1);
        Check.due("c waits", house.state(9), 1);
        Check.due("ab", Check.row(house, 0), "ab");
    }

    private static void busyFor(String text, int ticks) {
        TerminalHouse house = plain();
        Check.write(house, text);
        house.ticks(text.length() + 1);
        Check.due("BUSY behind " + text.replace(ESC, "ESC"), house.state(10), ticks);
        for (int left = ticks - 1; left >= 0; left--) {
            Check.write(house, "z");
            house.ticks(1);
            Check.due("BUSY", house.state(10), left);
        }
        Check.due("nothing is done meanwhile", house.state(9), Math.max(0, ticks - 1));
        house.ticks(10);
        Check.due("all is done", house.state(9), 0);
    }

    private static void busy() {
        Check.says("BUSY becomes 3 by what SCROLLED, or by L or M that did something; 2 by J and # 8.");
        String bottom = ESC + "[4H";
        busyFor(bottom + "\n", 3);
        busyFor(bottom + "\u000b", 3);
        busyFor(bottom + "\f", 3);
        busyFor(bottom + ESC + "D", 3);
        busyFor(bottom + ESC + "E", 3);
        busyFor(bottom + "x".repeat(17), 3);
        busyFor(bottom + "x".repeat(16), 0);
        busyFor(ESC + "M", 3);
        busyFor("\n", 0);
        busyFor(ESC + "D", 0);
        busyFor("\n" + ESC + "M", 0);
        busyFor(ESC + "[2;3r" + bottom + "\n", 0);
        busyFor(ESC + "[2;3r" + ESC + "M", 0);
        busyFor(ESC + "[2;3r" + ESC + "[3H\n", 3);
        busyFor(ESC + "[L", 3);
        busyFor(ESC + "[9L", 3);
        busyFor(ESC + "[M", 3);
        busyFor(bottom + ESC + "[M", 3);
        busyFor(ESC + "[2;3r" + ESC + "[L", 0);
        busyFor(ESC + "[2;3r" + ESC + "[M", 0);
        busyFor(ESC + "[2;3r" + bottom + ESC + "[L", 0);
        busyFor(ESC + "[2;3r" + bottom + ESC + "[M", 0);
        busyFor(ESC + "[2;3r" + ESC + "[2H" + ESC + "[L", 3);
        busyFor(ESC + "[2;3r" + ESC + "[3H" + ESC + "[M", 3);
        busyFor(ESC + "[J", 2);
        busyFor(ESC + "[1J", 2);
        busyFor(ESC + "[2J", 2);
        busyFor(ESC + "#8", 2);
        String[] others = {"a", "\r", "\t", ESC + "[K", ESC + "[2K", ESC + "[@", ESC + "[P", ESC + "[X", ESC + "#6", ESC + "c", ESC + "[2;3r",
            ESC + "7", ESC + "8", ESC + "[H", ESC + "[m", ESC + "[6n"};
        for (String text : others) {
            busyFor(text, 0);
        }
    }

    private static void answers() {
        Check.says("ANSWERS has at most 32 bytes; what has no room wholly is lost.");
        String hush = "\u0013";
        TerminalHouse house = plain();
        Check.does(house, hush + (ESC + "[5n").repeat(8));
        Check.due("32", house.state(14), 32);
        Check.does(house, ESC + "[5n" + ESC + "Z");
        Check.due("32", house.state(14), 32);
        Check.due("no bell", house.state(8), 0);
        house = plain();
        Check.does(house, hush + (ESC + "Z").repeat(4));
        Check.due("28", house.state(14), 28);
        Check.does(house, ESC + "Z" + ESC + "[6n");
        Check.due("seven and six have no room", house.state(14), 28);
        Check.does(house, ESC + "[5n");
        Check.due("four have", house.state(14), 32);
        Check.does(house, "\u0011");
        Check.due("read", house.read(300), 32);
        Check.due("whole ones alone", Check.out(house), (ESC + "[?1;2c").repeat(4) + ESC + "[0n");
    }

    private static void whichKeys() {
        Check.says("KEYS 0 .. 28 and 32 .. 126 are up or down.");
        TerminalHouse house = plain();
        int[] right = {0, 1, 27, 28, 32, 33, 125, 126};
        for (int key : right) {
            Check.due("key " + key, house.key(key, false), true);
            Check.due("key " + key, house.key(key, true), true);
            Check.due("key " + key, house.key(key, true), true);
            Check.due("key " + key, house.key(key, false), true);
        }
        int[] wrong = {LEAST, -1, 29, 30, 31, 127, 128, 256 + 65, MOST};
        for (int key : wrong) {
            Check.due("key " + key, house.key(key, true), false);
            Check.due("key " + key, house.key(key, false), false);
        }
        house.ticks(100);
        Check.due("nothing was struck", house.count(12), 0);
        Check.due("no key repeats", house.state(18), -1);
    }

    private static void threeInAScan() {
        Check.says("one that is down and not SEEN: if less than 3 were so in this SCAN: SEEN, and it is STRUCK.");
        for (int n = 1; n <= 8; n++) {
            TerminalHouse house = plain();
            for (int i = n - 1; i >= 0; i--) {
                house.key('a' + i, true);
            }
            house.ticks(3);
            Check.due("no SCAN", house.state(14) + house.count(12), 0);
            for (int scan = 1; scan <= 3; scan++) {
                house.ticks(1);
                Check.due("struck in " + scan + " scans of " + n, house.state(14) + house.count(12), Math.min(n, 3 * scan));
                Check.due("what repeats", house.state(18), 'a' + Math.min(n, 3 * scan) - 1);
                house.ticks(3);
            }
            house.ticks(8);
            Check.due("read", house.read(300), n);
            Check.due("by numbers", Check.out(house), "abcdefgh".substring(0, n));
        }
        // keys that send nothing count, too
        TerminalHouse house = plain();
        house.key(27, true);
        house.key(28, true);
        house.key('a', true);
        house.key('b', true);
        house.ticks(4);
        Check.due("27, 28 and a", house.state(18), 'a');
        house.ticks(4);
        Check.due("b", house.state(18), 'b');
    }

    private static void seen() {
        Check.says("SCANNED: by numbers: one that is up: it is SEEN no more (it repeats no more)");
        TerminalHouse house = plain();
        house.key('a', true);
        house.ticks(1);
        house.key('a', false);
        house.ticks(7);
        Check.due("down between two scans", house.count(12), 0);
        house.key('a', true);
        house.ticks(4);
        Check.due("struck", house.count(12), 1);
        house.ticks(12);
        Check.due("once", house.count(12), 1);
        house.key('a', false);
        house.ticks(1);
        house.key('a', true);
        house.ticks(8);
        Check.due("up between two scans", house.count(12), 1);
        Check.due("it repeats", house.state(18), 'a');
        house.ticks(3);
        house.key('a', false);
        house.ticks(1);
        Check.due("up, but not yet SCANNED", house.state(18), 'a');
        house.ticks(4);
        Check.due("it repeats no more", house.state(18), -1);
        house.key('a', true);
        house.ticks(4);
        Check.due("struck anew", house.count(12), 2);
        // a key that is up does not end what another repeats
        house.key('b', true);
        house.ticks(4);
        Check.due("b repeats", house.state(18), 'b');
        house.key('a', false);
        house.ticks(4);
        Check.due("b repeats still", house.state(18), 'b');
    }

    private static void repeats() {
        Check.says("A key that is STRUCK as it is SEEN repeats from now on in place of others, with its time 32 more than TIME, but 22, 23, 26, 27, 28"
            + " (then what repeated goes on).");
        TerminalHouse house = plain();
        house.key('z', true);
        house.ticks(4);
        house.key('a', true);
        house.ticks(4);
        Check.due("the latest", house.state(18), 'a');
        house.ticks(31);
        Check.due("TIME", house.count(0), 39);
        Check.due("both once", house.count(12), 2);
        house.ticks(1);
        Check.due("a again, z no more", house.count(12), 3);
        int[] keep = {22, 23, 26, 27, 28};
        for (int key : keep) {
            house = plain();
            house.key('a', true);
            house.ticks(4);
            house.key(key, true);
            house.ticks(4);
            Check.due("a goes on, not " + key, house.state(18), 'a');
            house.ticks(27);
            int before = house.count(12) + house.state(14);
            house.ticks(1);
            Check.due("TIME", house.count(0), 36);
            Check.due("a at its own time", house.count(12) + house.state(14), before + 1);
        }
        // a key that was STRUCK again as it repeats is not SEEN anew: nothing changes
        house = plain();
        house.key('a', true);
        house.key('b', true);
        house.ticks(4);
        house.key('b', false);
        house.ticks(4);
        Check.due("none repeats: a was SEEN ahead of b", house.state(18), -1);
        house.ticks(100);
        Check.due("a does not come back", house.count(12), 2);
    }

    private static void repeatTimes() {
        Check.says("Then, if one repeats, REPEAT is on, and TIME is its time or more: STRUCK again, its time is 4 more than TIME.");
        TerminalHouse house = plain();
        house.key('a', true);
        house.ticks(4);
        Check.due("struck at 4", house.count(12), 1);
        house.ticks(31);
        Check.due("at 35", house.count(12), 1);
        for (int n = 2; n < 12; n++) {
            house.ticks(1);
            Check.due("at " + (28 + 4 * n), house.count(12), n);
            house.ticks(3);
            Check.due("till the next scan", house.count(12), n);
        }
        // in the very scan in which another key is SEEN
        house = plain();
        house.key('a', true);
        house.ticks(34);
        house.key(23, true);
        house.ticks(2);
        Check.due("23 and a at 36", house.count(12) + house.state(14), 3);
        house = plain();
        house.key('a', true);
        house.ticks(34);
        house.key('b', true);
        house.ticks(2);
        Check.due("b, and no more a, at 36", house.count(12) + house.state(14), 2);
        // in the very scan in which it is seen up
        house = plain();
        house.key('a', true);
        house.ticks(34);
        house.key('a', false);
        house.ticks(2);
        Check.due("not at 36", house.count(12) + house.state(14), 1);
    }

    private static void repeatMode() {
        TerminalHouse house = plain();
        Check.does(house, ESC + "[?8l");
        house.key('a', true);
        house.ticks(100);
        Check.due("once", house.count(12), 1);
        Check.due("it is the one that repeats", house.state(18), 'a');
        Check.write(house, ESC + "[?8h");
        house.ticks(8);
        int before = house.count(12);
        Check.due("at once: its time was long ago", before >= 2, true);
        house.ticks(40);
        Check.due("then each 4 ticks", house.count(12), before + 10);
    }

    private static void neverRepeating() {
        for (int key = 0; key <= 126; key++) {
            if (key <= 28 || key >= 32) {
                TerminalHouse house = plain();
                house.key(key, true);
                house.ticks(4);
                boolean isNever = key == 22 || key == 23 || key == 26 || key == 27 || key == 28;
                Check.due("what repeats", house.state(18), isNever ? -1 : key);
            }
        }
    }

    private static void noRoom() {
        Check.says("STRUCK: its bytes come to ANSWERS (no room: a bell).");
        TerminalHouse house = plain();
        Check.does(house, "\u0013" + (ESC + "Z").repeat(4) + ESC + "[20h");
        Check.due("28", house.state(14), 28);
        int time = house.count(0) % 4;
        house.ticks(4 - time);
        int[] keys = {0, 4, 'a', 22, 'b', 28, 27};
        int[] bytes = {31, 31, 32, 32, 32, 32, 32};
        int[] bells = {0, 1, 1, 2, 3, 3, 3};
        for (int i = 0; i < keys.length; i++) {
            house.key(keys[i], true);
            house.ticks(4);
            Check.due("ANSWERS behind key " + keys[i], house.state(14), bytes[i]);
            Check.due("bells behind key " + keys[i], house.state(8), bells[i]);
        }
        Check.due("HELD without room", house.state(11), 1);
    }

    private static void controlled() {
        Check.says("32 .. 126: itself; while 28 is down: 64 .. 95, 97 .. 122: its lowest 5 bits, 63: 127, others themselves.");
        for (int key = 32; key <= 126; key++) {
            TerminalHouse house = plain();
            house.key(28, true);
            house.key(key, true);
            house.ticks(8);
            house.key(28, false);
            house.key(key, false);
            house.ticks(4);
            house.key(key, true);
            house.ticks(8);
            boolean isLow = key >= 64 && key <= 95 || key >= 97 && key <= 122;
            char low = (char) (key == 63 ? 127 : isLow ? key & 31 : key);
            Check.due("read", house.read(9), 2);
            Check.due("key " + key, Check.out(house), "" + low + (char) key);
        }
        // 28 is down as soon as it is, also ahead of its SCAN, and with keys of another sort it is nothing
        TerminalHouse house = plain();
        house.key(28, true);
        house.key(0, true);
        house.key(21, true);
        house.ticks(12);
        Check.due("read", house.read(9), 4);
        Check.due("as ever", Check.out(house), ESC + "[A\r");
    }

    /** What a key below 32 sends, by the modes CURSOR KEYS, KEYPAD and NEWLINE. */
    private static String bytes(int key, boolean isCursor, boolean isPad, boolean isNewline) {
        if (key < 4) {
            return ESC + (isCursor ? "O" : "[") + "ABCD".charAt(key);
        }
        if (key < 8) {
            return ESC + "O" + "PQRS".charAt(key - 4);
        }
        if (key < 21) {
            return isPad ? ESC + "O" + "pqrstuvwxymln".charAt(key - 8) : String.valueOf("0123456789-,.".charAt(key - 8));
        }
        if (key == 21 && isPad) {
            return ESC + "OM";
        }
        if (key <= 22) {
            return isNewline ? "\r\n" : "\r";
        }
        return key <= 26 ? String.valueOf("\t\b\u007f\u001b".charAt(key - 23)) : "";
    }

    private static void everyKey() {
        Check.says("0 1 2 3: ESC [ and A B C D, with CURSOR KEYS ESC O and these.");
        for (int modes = 0; modes < 8; modes++) {
            boolean isCursor = (modes & 1) != 0;
            boolean isPad = (modes & 2) != 0;
            boolean isNewline = (modes & 4) != 0;
            String set = ESC + (isCursor ? "[?1h" : "[?1l") + ESC + (isPad ? "=" : ">") + ESC + (isNewline ? "[20h" : "[20l");
            for (int key = 0; key <= 28; key++) {
                TerminalHouse house = plain();
                Check.write(house, set);
                house.ticks(40);
                house.key(key, true);
                house.ticks(20);
                String due = key == 27 ? "\u0013" : bytes(key, isCursor, isPad, isNewline);
                Check.due("bytes of " + key + " with " + modes, house.read(9), due.isEmpty() ? -1 : due.length());
                Check.due("key " + key + " with " + modes, Check.out(house), due);
                Check.due("HELD", house.state(11), key == 27 ? 1 : 0);
            }
        }
    }
}
