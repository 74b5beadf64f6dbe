/** Promises 24 to 28: show, update, redraw, known, wanted: how many bytes, and what the terminal has then. */
public final class UpdateTest {
    private static final String FULL = "cols#16, lines#4, it#8, clear=^L, cup=cccc%p1%d%p2%d, home=H, cr=R,"
        + " cud1=D, cuu1=U, cub1=B, cuf1=FF, cuf=f%p1%d, ht=T, el=KKK, sgr0=Z, bold=b1, smul=s1, rev=r, bel=GG,";
    private static final String REAL = " cols#20, lines#6, it#8, bel=^G, clear=\\E[H\\E[J, home=\\E[H,"
        + " cup=\\E[%i%p1%d;%p2%dH, cuu1=\\E[A, cud1=\\n, cub1=^H, cuf1=\\E[C, cuu=\\E[%p1%dA, cud=\\E[%p1%dB,\n"
        + " cub=\\E[%p1%dD, cuf=\\E[%p1%dC, hpa=\\E[%i%p1%dG, vpa=\\E[%i%p1%dd, cr=\\r, ht=^I, ind=\\n,\n"
        + " csr=\\E[%i%p1%d;%p2%dr, el=\\E[K, sgr0=\\E[m, bold=\\E[1m, smul=\\E[4m, blink=\\E[5m, rev=\\E[7m,\n";

    public static void main(String[] args) {
        leastType();
        cursorBehindRedraw();
        motions();
        otherMotions();
        clothes();
        clearing();
        rolling();
        margins();
        bells();
        tooMany();
        noRoom();
        nothingIsDone();
        justEnough();
        for (int seed = 1; seed <= 60; seed++) {
            reaches("am, xenl,", "", seed);
            reaches("am, xenl, msgr,", "", seed);
            reaches("", " is=\\E[?7l,\n", seed);
            reaches("am, xenl, cup=\\E[%i%p1%03d;%p2%03dH, hpa@, vpa@, cuf@, ind@, home@,", "", seed);
        }
        Check.finish("UpdateTest");
    }

    private static TerminalHouse house(String fields, int lines, int columns) {
        TerminalHouse house = new TerminalHouse(lines, columns, 1);
        Check.due("describe", Check.describe(house, "t,\n " + fields + "\n"), 1);
        Check.due("use", Check.use(house, "t"), 0);
        Check.due("open", house.open(0, 0, lines, columns), 0);
        return house;
    }

    /** Moves the cursor alone: the bytes are those of one MOTION. */
    private static void goTo(TerminalHouse house, int y, int x, int bytes) {
        house.at(0, y, x);
        house.show(0);
        Check.due("motion to " + y + ", " + x, house.update(), bytes);
        Check.due("row", house.count(15), y);
        Check.due("column", house.count(16), x);
    }

    private static void saying(TerminalHouse house, String text, int bytes) {
        Check.say(house, 0, text);
        house.show(0);
        Check.due("update behind " + text, house.update(), bytes);
    }

    private static void leastType() {
        TerminalHouse house = house("cols#16, lines#4, clear=^L, cup=c%p1%d%p2%d,", 4, 16);
        Check.due("a first update", house.update(), 1);
        Check.due("queue", house.count(5), 1);
        Check.due("cursor", house.count(15), 0);
        Check.due("once more", house.update(), 0);
        saying(house, "ab", 2);
        house.at(0, 1, 3);
        saying(house, "x", 4);
        // the known blanks are fewer bytes than cup
        house.at(0, 1, 6);
        saying(house, "y", 3);
        goTo(house, 1, 0, 3);
        goTo(house, 1, 2, 2);
        goTo(house, 1, 5, 3);
        // without am the cursor stays at the last column
        house.at(0, 2, 15);
        Check.say(house, 0, "z");
        house.at(0, 2, 15);
        house.show(0);
        Check.due("the last column", house.update(), 5);
        Check.due("column", house.count(16), 15);
        Check.due("redraw", house.redraw(), true);
        Check.due("strange", house.known(0, 0), -1);
        Check.due("row behind redraw", house.count(15), 2);
        Check.due("column behind redraw", house.count(16), 15);
        Check.due("all anew", house.update(), 1 + 2 + 4 + 3 + 5);
    }

    /** A redraw makes the known cells strange; the known cursor is as it was. */
    private static void cursorBehindRedraw() {
        TerminalHouse house = house("cols#16, lines#4, clear=^L, cup=c%p1%d%p2%d,", 4, 16);
        Check.due("redraw ahead of all updates", house.redraw(), true);
        goTo(house, 1, 2, 1 + 3);
        for (int i = 0; i < 2; i++) {
            Check.due("redraw", house.redraw(), true);
            Check.due("row", house.count(15), 1);
            Check.due("column", house.count(16), 2);
        }
        house.at(0, 3, 3);
        house.show(0);
        Check.due("the row that is known, not that which is wanted", house.count(15), 1);
        Check.due("all anew", house.update(), 1 + 3);
        Check.due("row", house.count(15), 3);
        Check.due("known again", house.known(0, 0), 32);
    }

    private static void motions() {
        TerminalHouse house = house(FULL, 4, 16);
        Check.due("sgr0 and clear", house.update(), 2);
        goTo(house, 0, 0, 0);
        goTo(house, 1, 0, 1);
        goTo(house, 1, 8, 1);
        goTo(house, 1, 10, 2);
        goTo(house, 1, 9, 1);
        goTo(house, 0, 9, 1);
        goTo(house, 3, 15, 5);
        goTo(house, 0, 0, 1);
        goTo(house, 3, 0, 3);
        goTo(house, 2, 15, 4);
        goTo(house, 2, 0, 1);
        goTo(house, 2, 1, 1);
        goTo(house, 2, 15, 3);
        goTo(house, 0, 7, 3);
        goTo(house, 2, 3, 5);
        goTo(house, 0, 15, 4);
        goTo(house, 3, 1, 5);
    }

    private static void otherMotions() {
        TerminalHouse house = house("cols#16, lines#4, clear=, cup=cccc%p1%d%p2%d, hpa=hh%p1%d, vpa=v%p1%d,"
            + " cuu=u%p1%d, cud=d%p1%d, cub=b%p1%d, cuu1=uuu, cud1=dd, cub1=,", 4, 16);
        Check.due("nothing", house.update(), 0);
        goTo(house, 3, 0, 2);
        goTo(house, 0, 0, 2);
        goTo(house, 0, 5, 3);
        goTo(house, 0, 0, 0);
        goTo(house, 2, 0, 2);
        goTo(house, 2, 11, 4);
        goTo(house, 3, 12, 3);
        goTo(house, 2, 12, 2);
        // rows go by vpa, columns to the left by nothing
        goTo(house, 1, 2, 2);
        goTo(house, 2, 15, 7);
        TerminalHouse none = house("cols#16, lines#4, it#0, ht=T, clear=, cup=cccc%p1%d%p2%d, home=H, cr=R,", 4, 16);
        Check.due("nothing", none.update(), 0);
        goTo(none, 0, 8, 6);
        goTo(none, 0, 0, 1);
        goTo(none, 1, 0, 6);
        goTo(none, 1, 5, 5);
        goTo(none, 1, 0, 1);
        goTo(none, 0, 3, 4);
    }

    private static void clothes() {
        TerminalHouse house = house(FULL, 4, 16);
        house.dress(0, 1);
        Check.say(house, 0, "a\r");
        house.at(0, 1, 0);
        // Z L, b1 a, Z DB or RD, b1 b, Z
        saying(house, "b", 12);
        Check.due("nothing is on", house.count(14), 0);
        TerminalHouse moving = house("msgr, " + FULL, 4, 16);
        moving.dress(0, 1);
        Check.say(moving, 0, "a");
        moving.at(0, 1, 0);
        saying(moving, "b", 9);
        // bold and reversed: bold goes on, then off with sgr0
        moving.dress(0, 9);
        saying(moving, "c", 2 + 1 + 1 + 1);
        Check.due("known", moving.known(1, 1), 'c' + 256 * 9);
        // blink is not offered: there is no such string
        moving.dress(0, 4);
        saying(moving, "d", 1);
        Check.due("known", moving.known(1, 2), 'd');
        Check.due("wanted", moving.wanted(1, 2), 'd' + 256 * 4);
        moving.dress(0, 6);
        saying(moving, "e", 4);
        Check.due("known", moving.known(1, 3), 'e' + 256 * 2);
        TerminalHouse undressed = house("cols#16, lines#4, clear=, cup=c%p1%d%p2%d, bold=bb,", 4, 16);
        undressed.dress(0, 15);
        saying(undressed, "a b", 3);
        Check.due("without sgr0 nothing is offered", undressed.known(0, 0), 'a');
    }

    private static void clearing() {
        TerminalHouse house = house(FULL, 4, 16);
        saying(house, "abcdefgh", 10);
        house.at(0, 0, 5);
        house.erase(0, 2);
        house.show(0);
        // three bytes of el are no more than three blanks: BBB, three blanks, BBB
        Check.due("blanks", house.update(), 9);
        house.at(0, 0, 1);
        house.erase(0, 2);
        house.show(0);
        // cr and the known a are fewer than BBBB
        Check.due("el", house.update(), 2 + 3);
        Check.due("known", house.known(0, 1), 32);
        TerminalHouse empty = house("cols#16, lines#4, clear=, cup=c%p1%d%p2%d, el=,", 4, 16);
        saying(empty, "ab", 2);
        empty.erase(0, 0);
        empty.show(0);
        Check.due("an el of nothing", empty.update(), 3);
        Check.due("known", empty.known(0, 1), 32);
    }

    private static void rolling() {
        TerminalHouse house = house("ind=III, " + FULL, 4, 16);
        saying(house, "111111\n222222\n333333\n4444", 2 + 6 * 3 + 2 * 3 + 4);
        house.roll(0, 1);
        house.show(0);
        // to 3, 0 by cr, ind, and back to column 4 by the known bytes or cuf
        Check.due("rolled", house.update(), 1 + 3 + 2);
        Check.due("known", house.known(2, 3), '4');
        Check.due("known", house.known(3, 0), 32);
        house.roll(0, -1);
        house.show(0);
        Check.due("nothing rolls down", house.update() > 24, true);
        TerminalHouse blank = house("ind=III, " + FULL, 4, 16);
        blank.update();
        blank.redraw();
        Check.due("nothing rolls on a blank screen", blank.update(), 2);
    }

    /** With am and without xenl the last CELL is left alone. */
    private static void margins() {
        String least = "cols#16, lines#4, clear=, cup=c%p1%d%p2%d,";
        TerminalHouse house = house("am, " + least, 4, 16);
        house.at(0, 0, 15);
        Check.say(house, 0, "x");
        house.show(0);
        Check.due("the next row", house.update(), 5);
        Check.due("row", house.count(15), 1);
        Check.due("column", house.count(16), 0);
        house.at(0, 3, 14);
        Check.say(house, 0, "yz");
        house.show(0);
        Check.due("the last cell", house.update(), 5);
        Check.due("known", house.known(3, 14), 'y');
        Check.due("not written", house.known(3, 15), 32);
        Check.due("wanted", house.wanted(3, 15), 'z');
        TerminalHouse late = house("am, xenl, " + least, 4, 16);
        late.at(0, 0, 15);
        Check.say(late, 0, "x");
        late.at(0, 0, 0);
        late.show(0);
        Check.due("not known, so cup", late.update(), 4 + 1 + 3);
        late.at(0, 3, 15);
        Check.say(late, 0, "z");
        late.show(0);
        Check.due("the last cell is written", late.update(), 4 + 1 + 4);
        Check.due("known", late.known(3, 15), 'z');
    }

    private static void bells() {
        TerminalHouse house = house(FULL, 4, 16);
        Check.say(house, 0, "\u0007\u0007");
        Check.due("bel, sgr0, clear", house.update(), 4);
        Check.due("no more", house.update(), 0);
        TerminalHouse silent = house("cols#16, lines#4, clear=, cup=,", 4, 16);
        Check.say(silent, 0, "\u0007");
        Check.due("no bel", silent.update(), 0);
    }

    private static TerminalHouse striped(int stripes) {
        String forty = "x".repeat(40);
        TerminalHouse house = new TerminalHouse(24, 80, 1);
        Check.describe(house, "t,\n am, xenl, cols#80, lines#24, clear=, cup=c, bel=b, sgr0=" + forty
            + ", bold=" + forty + ",\n");
        Check.use(house, "t");
        for (int i = 0; i < stripes; i++) {
            int w = house.open(0, 2 + 3 * i, 24, 1);
            house.dress(w, 1);
            Check.say(house, w, "y".repeat(24));
            house.show(w);
        }
        return house;
    }

    private static void tooMany() {
        TerminalHouse house = striped(4);
        Check.due("four stripes", house.update(), -1);
        Check.due("nothing came", house.count(5), 0);
        Check.due("still strange", house.known(0, 0), -1);
        int w = house.open(0, 0, 1, 1);
        Check.say(house, w, "\u0007");
        Check.due("none", house.update(), -1);
        house.erase(3, 0);
        house.show(3);
        // sgr0; 72 times cup, bold, y and sgr0; cup; bel
        Check.due("fewer", house.update(), 40 + 72 * 82 + 1 + 1);
        Check.due("known", house.known(23, 8), 'y' + 256);
    }

    private static void noRoom() {
        TerminalHouse house = striped(2);
        int bytes = 40 + 48 * 82 + 1;
        Check.due("update", house.update(), bytes);
        house.redraw();
        Check.due("update", house.update(), bytes);
        Check.due("queue", house.count(5), 2 * bytes);
        Check.say(house, 0, "\r\u0007");
        house.show(0);
        int row = house.count(15);
        int column = house.count(16);
        house.redraw();
        Check.due("no room", house.update(), -1);
        Check.due("queue", house.count(5), 2 * bytes);
        Check.due("strange still", house.known(0, 2), -1);
        Check.due("the row is still known", row >= 0 && house.count(15) == row, true);
        Check.due("the column is still known", column >= 0 && house.count(16) == column, true);
        house.ticks(2000);
        house.ticks(2000);
        Check.due("room, and the bell", house.update(), bytes + 1);
        Check.due("known", house.known(0, 2), 'y' + 256);
    }

    /** 6000 bytes are not too many, and just room enough is enough. */
    private static void justEnough() {
        for (int more = 0; more < 2; more++) {
            for (int filled = 2000; filled <= 2001; filled++) {
                TerminalHouse house = striped(3);
                Check.write(house, "x".repeat(filled));
                int w = house.open(0, 40, 1, 40);
                Check.say(house, w, "z".repeat(40));
                house.show(w);
                w = house.open(1, 40, 1, 20);
                Check.say(house, w, "z".repeat(13 + more));
                house.show(w);
                // sgr0; 72 times cup, bold, y and sgr0; cup and the z of two rows; cup
                int bytes = 40 + 72 * 82 + 41 + 14 + 1;
                Check.due("bytes", bytes, 6000);
                Check.due("update", house.update(), more == 0 && filled == 2000 ? bytes : -1);
            }
        }
    }

    /** An update that comes to nothing leaves what is known, here of a screen that is not strange. */
    private static void nothingIsDone() {
        TerminalHouse house = house("ind=III, " + FULL, 4, 16);
        saying(house, "one\ntwo\nthree", 2 + 3 + 2 + 3 + 2 + 5);
        house.flags(128);
        Check.write(house, "\t".repeat(1000));
        Check.due("queue", house.count(5), 8000);
        house.roll(0, 1);
        house.dress(0, 9);
        house.at(0, 3, 7);
        Check.say(house, 0, "x\u0007");
        house.show(0);
        Check.due("no room", house.update(), -1);
        String rows = "";
        for (int y = 0; y < 4; y++) {
            rows += (char) house.known(y, 0);
        }
        Check.due("known", rows, "ott ");
        Check.due("known", house.known(3, 7), 32);
        Check.due("row", house.count(15), 2);
        Check.due("column", house.count(16), 5);
        Check.due("on", house.count(14), 0);
        house.ticks(2000);
        // bel; to 3, 0; ind; to 3, 7; bold, rev, x, sgr0
        Check.due("with room", house.update(), 2 + 2 + 3 + 2 + 2 + 1 + 1 + 1);
        Check.due("known", house.known(3, 7), 'x' + 256 * 9);
        Check.due("known", house.known(0, 0), 't');
    }

    /** Random windows: behind each update the terminal comes to have what is known and wanted. */
    private static void reaches(String flags, String more, int seed) {
        java.util.Random random = new java.util.Random(seed);
        TerminalHouse house = new TerminalHouse(6, 20, 1);
        house.flags(64);
        Check.due("describe", Check.describe(house, "r,\n" + REAL + more + "t,\n " + flags + " use=r,\n"), 2);
        Check.due("use", Check.use(house, "t"), 0);
        house.open(0, 0, 6, 20);
        house.open(1, 3, 4, 9);
        house.scrolls(0, true);
        for (int round = 0; round < 4; round++) {
            for (int i = 0; i < 5; i++) {
                change(house, random.nextInt(2), random);
            }
            house.show(0);
            if (random.nextBoolean()) {
                house.show(1);
            }
            Check.due("update", house.update() >= 0, true);
            Check.rest(house);
        }
        int unlike = 0;
        for (int y = 0; y < 6; y++) {
            for (int x = 0; x < 20; x++) {
                int wanted = house.wanted(y, x);
                if (house.screen(y, x) != wanted || house.known(y, x) != wanted) {
                    unlike++;
                }
            }
        }
        Check.due("cells unlike with " + flags + " and seed " + seed, unlike, 0);
        Check.due("cursor row", house.state(0), house.count(15));
        Check.due("cursor column", house.state(1), house.count(16));
    }

    private static void change(TerminalHouse house, int window, java.util.Random random) {
        switch (random.nextInt(8)) {
            case 0: house.dress(window, random.nextInt(16)); break;
            case 1: house.at(window, random.nextInt(4), random.nextInt(9)); break;
            case 2: house.roll(window, random.nextInt(5) - 1); break;
            case 3: house.erase(window, random.nextInt(3)); break;
            case 4: house.rows(window, random.nextInt(5) - 2); break;
            case 5: house.box(window); break;
            default: Check.say(house, window, "The quick\tbrown fox\njumps".substring(random.nextInt(12)));
        }
    }
}
