/** Promises 33 and 34: spoil and ticks; the line, THE SILO, and the CAUSES. */
public final class LineTest {
    public static void main(String[] args) {
        ticks();
        speed();
        spoiling();
        full();
        overflow();
        held();
        hushed();
        busy();
        Check.finish("LineTest");
    }

    private static void ticks() {
        TerminalHouse house = new TerminalHouse(4, 16, 1);
        int[] wrong = {0, -1, 2001, Integer.MIN_VALUE, Integer.MAX_VALUE};
        for (int n : wrong) {
            Check.due("ticks " + n, house.ticks(n), -1);
        }
        Check.due("time", house.count(0), 0);
        Check.due("ticks", house.ticks(1), 1);
        Check.due("ticks", house.ticks(2000), 2000);
        Check.due("time", house.count(0), 2001);
    }

    private static void speed() {
        TerminalHouse house = new TerminalHouse(4, 16, 5);
        Check.write(house, "abc");
        house.ticks(1);
        Check.due("sent", house.count(11), 1);
        Check.due("queue", house.count(5), 2);
        house.ticks(4);
        Check.due("under way", house.count(11), 1);
        Check.due("nothing there", house.screen(0, 0), 32);
        house.ticks(1);
        Check.due("there", house.screen(0, 0), 'a');
        Check.due("the next was sent", house.count(11), 2);
        house.ticks(5);
        Check.due("there", house.screen(0, 1), 'b');
        house.key('x', true);
        house.ticks(1);
        Check.due("time is a multiple of 4", house.count(0), 12);
        Check.due("sent to the program", house.count(12), 1);
        house.ticks(4);
        Check.due("not yet come", house.count(7), 0);
        house.ticks(1);
        Check.due("come", house.count(7), 1);
    }

    private static void spoiling() {
        TerminalHouse house = new TerminalHouse(4, 16, 3);
        Check.due("nothing to spoil", house.spoil(0), false);
        Check.due("nothing to spoil", house.spoil(1), false);
        Check.write(house, "\u001b(0bqb");
        Check.due("not yet under way", house.spoil(0), false);
        int[] wrong = {2, -1, Integer.MIN_VALUE, Integer.MAX_VALUE};
        house.ticks(1);
        for (int way : wrong) {
            Check.due("spoil " + way, house.spoil(way), false);
        }
        // a byte is sent at 1, 4, 7, 10, and q at 13
        house.ticks(12);
        Check.due("spoil q", house.spoil(0), true);
        Check.due("spoil it again", house.spoil(0), true);
        Check.due("the other way", house.spoil(1), false);
        house.ticks(20);
        Check.due("b is a sign", house.screen(0, 0), 'b' + 128);
        Check.due("spoiled", house.screen(0, 1), 225);
        Check.due("as ever", house.screen(0, 2), 'b' + 128);
        Check.write(house, "\u001b[");
        house.ticks(8);
        Check.due("in a sequence", house.state(15), 3);
        Check.write(house, "\u0013");
        house.ticks(1);
        Check.due("spoil 19", house.spoil(0), true);
        house.ticks(9);
        Check.due("not hushed", house.state(12), 0);
        Check.due("plain again", house.state(15), 0);
        Check.due("spoiled", house.screen(0, 3), 225);
        house.flags(0);
        house.key('k', true);
        house.ticks(4 - house.count(0) % 4);
        house.key('k', false);
        Check.due("spoil to the program", house.spoil(1), true);
        house.ticks(20);
        Check.due("it is nothing", house.count(8), 0);
        Check.due("but was sent", house.count(12), 1);
    }

    /** Rows that scroll take four ticks each, so THE SILO fills. */
    private static void full() {
        TerminalHouse house = new TerminalHouse(4, 16, 1);
        house.flags(64);
        Check.write(house, "\n".repeat(200));
        int ticks = 0;
        while (house.state(9) < 48 && ticks < 200) {
            Check.due("no cause yet", house.state(13), 0);
            house.ticks(1);
            ticks++;
        }
        Check.due("full", house.state(13), 1);
        house.ticks(2);
        Check.due("stopped", house.count(6), 1);
        Check.due("sent 19", house.count(12), 1);
        // each scroll takes four ticks, so no number of bytes is passed over
        while (house.state(9) > 16 && ticks < 800) {
            Check.due("still full", house.state(13), 1);
            house.ticks(4);
            ticks += 4;
        }
        Check.due("sixteen", house.state(9), 16);
        Check.due("no cause", house.state(13), 0);
        house.ticks(1);
        Check.due("goes on", house.count(6), 0);
        Check.due("sent 17", house.count(12), 2);
        house.ticks(2000);
        Check.due("nothing was lost", house.state(16), 0);
        Check.due("all done", house.state(9) + house.count(5), 0);
    }

    private static void overflow() {
        TerminalHouse house = new TerminalHouse(4, 16, 1);
        house.flags(0);
        house.key(27, true);
        house.ticks(8);
        Check.write(house, "x".repeat(70));
        house.ticks(100);
        Check.due("silo", house.state(9), 64);
        Check.due("lost", house.state(16), 6);
        Check.due("causes", house.state(13), 3);
        house.key(27, false);
        house.ticks(4);
        house.key(27, true);
        house.ticks(4);
        Check.due("not held", house.state(11), 0);
        house.ticks(100);
        Check.due("done", house.state(0) * 16 + house.state(1), 63);
        Check.due("pending", house.state(2), 1);
        // 19 once for both causes, 17 when both had gone; without LINES and STOPS both are READY
        Check.due("read", house.read(10), 2);
        Check.due("out", Check.out(house), "\u0013\u0011");
    }

    private static void held() {
        TerminalHouse house = new TerminalHouse(4, 16, 1);
        Check.write(house, "ab");
        house.key(27, true);
        house.ticks(4);
        Check.due("held", house.state(11), 1);
        Check.due("cause", house.state(13), 2);
        Check.due("ab was done", Check.row(house, 0), "ab");
        Check.due("sent 19", house.count(12), 1);
        house.ticks(40);
        Check.due("held by one stroke", house.state(11), 1);
        Check.due("stopped", house.count(6), 1);
        Check.write(house, "c");
        house.ticks(10);
        Check.due("queue", house.count(5), 1);
        house.key(27, false);
        house.ticks(4);
        Check.due("held still", house.state(11), 1);
        house.key(27, true);
        house.ticks(10);
        Check.due("held no more", house.state(11), 0);
        Check.due("row", Check.row(house, 0), "abc");
        Check.due("sent 17", house.count(12), 2);
    }

    private static void hushed() {
        TerminalHouse house = new TerminalHouse(4, 16, 1);
        house.flags(64);
        Check.write(house, "\u0013");
        house.ticks(3);
        Check.due("hushed", house.state(12), 1);
        Check.due("not in the silo", house.state(9), 0);
        Check.write(house, "\u001b[5n");
        house.ticks(20);
        Check.due("answers wait", house.state(14), 4);
        Check.due("sent", house.count(12), 0);
        house.key(27, true);
        house.ticks(8);
        Check.due("19 is sent all the same", house.count(12), 1);
        house.key(27, false);
        house.ticks(4);
        house.key(27, true);
        house.ticks(8);
        Check.due("17, too", house.count(12), 2);
        Check.write(house, "\u0011");
        house.ticks(10);
        Check.due("not hushed", house.state(12), 0);
        Check.due("answers went", house.state(14), 0);
        Check.due("read", house.read(9), 4);
        Check.due("out", Check.out(house), "\u001b[0n");
    }

    private static void busyBehind(String text, int ticks) {
        TerminalHouse house = Check.plainHouse(4, 16);
        Check.write(house, text);
        // the last byte arrives a tick behind its sending, and is done then
        house.ticks(text.length() + 1);
        Check.due("busy behind " + text, house.state(10), ticks);
        Check.write(house, "z");
        house.ticks(1);
        if (ticks > 0) {
            Check.due("one less", house.state(10), ticks - 1);
            house.ticks(ticks - 1);
            Check.due("busy no more", house.state(10), 0);
            Check.due("z waits", house.state(9), 1);
        }
        house.ticks(1);
        Check.due("z is done", house.state(9), 0);
    }

    private static void busy() {
        String esc = Check.ESC;
        busyBehind("a\nb", 0);
        busyBehind("\n\n\n", 0);
        busyBehind("\n\n\n\n", 3);
        busyBehind("x".repeat(64), 0);
        busyBehind("x".repeat(65), 3);
        busyBehind(esc + "M", 3);
        busyBehind("\n" + esc + "M", 0);
        busyBehind("\n\n\n" + esc + "D", 3);
        busyBehind("\n\n\n" + esc + "E", 3);
        busyBehind(esc + "[L", 3);
        busyBehind(esc + "[M", 3);
        busyBehind(esc + "[2;3r" + esc + "[4H" + esc + "[L", 0);
        busyBehind(esc + "[2;3r" + esc + "[M", 0);
        busyBehind(esc + "[J", 2);
        busyBehind(esc + "[1J", 2);
        busyBehind(esc + "[2J", 2);
        busyBehind(esc + "[?2J", 0);
        busyBehind(esc + "[K", 0);
        busyBehind(esc + "#8", 2);
        busyBehind(esc + "c", 0);
    }
}
