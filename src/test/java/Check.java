/**
 * What the tests share: answers that are due, and texts fed to a house's tape. A house is promised for 512 calls, so
 * no test makes more of them on one: what is here spares them.
 */
final class Check {
    static final String ESC = "\u001b";

    private static int done;
    private static int wrong;
    private static String sentence = "";

    private Check() {
    }

    /** The words of ../shared/DOC.md by which the answers behind this are due. */
    static void says(String words) {
        sentence = words;
    }

    static void due(String what, long got, long want) {
        compare(what, got == want, String.valueOf(got), String.valueOf(want));
    }

    private static void compare(String what, boolean same, String got, String want) {
        done++;
        if (!same) {
            wrong++;
            System.out.println(what + " answered " + got + ", due is " + want
                + (sentence.isEmpty() ? "" : ", by: " + sentence));
        }
    }

    static void due(String what, boolean got, boolean want) {
        due(what, got ? 1 : 0, want ? 1 : 0);
    }

    static void due(String what, String got, String want) {
        compare(what, got.equals(want), shown(got), shown(want));
    }

    private static String shown(String text) {
        StringBuilder all = new StringBuilder("\"");
        for (char c : text.toCharArray()) {
            all.append(c >= 32 && c < 127 ? String.valueOf(c) : "<" + (int) c + ">");
        }
        return all.append('"').toString();
    }

    static void finish(String test) {
        System.out.println(test + ": " + (done - wrong) + " answers as due, " + wrong + " not");
        if (wrong != 0) {
            System.exit(1);
        }
    }

    /** The text comes behind the tape. */
    static void feed(TerminalHouse house, String text) {
        int before = house.count(13);
        for (int i = 0; i < text.length(); i += 20) {
            due("feed", house.feed(four(text, i), four(text, i + 4), four(text, i + 8),
                four(text, i + 12), four(text, i + 16)), true);
        }
        due("end", house.end(before + text.length()), true);
    }

    private static int four(String text, int from) {
        int all = 0;
        for (int i = from; i < from + 4; i++) {
            all = all << 8 | (i < text.length() ? text.charAt(i) & 255 : 0);
        }
        return all;
    }

    static int describe(TerminalHouse house, String text) {
        feed(house, text);
        return house.describe();
    }

    static int use(TerminalHouse house, String name) {
        feed(house, name);
        return house.use();
    }

    static int ability(TerminalHouse house, String name) {
        feed(house, name);
        return house.ability();
    }

    static int expand(TerminalHouse house, String name, int a, int b, int c, int d) {
        feed(house, name);
        return house.expand(a, b, c, d);
    }

    static int say(TerminalHouse house, int window, String text) {
        feed(house, text);
        return house.say(window);
    }

    static int write(TerminalHouse house, String text) {
        feed(house, text);
        return house.write();
    }

    /** THE OUT as a text, up to where octet throws. */
    static String out(TerminalHouse house) {
        StringBuilder all = new StringBuilder();
        for (int i = 0; i <= 300; i++) {
            try {
                all.append((char) house.octet(i));
            } catch (java.util.NoSuchElementException e) {
                break;
            }
        }
        return all.toString();
    }

    static boolean throwsAt(TerminalHouse house, int i) {
        try {
            house.octet(i);
            return false;
        } catch (java.util.NoSuchElementException e) {
            return true;
        }
    }

    /** Writes a text to the terminal, and waits till it has done it. */
    static void does(TerminalHouse house, String text) {
        write(house, text);
        rest(house);
    }

    /** No byte of these tests takes the terminal more than four ticks, with a line of SPEED 1. */
    static void rest(TerminalHouse house) {
        int waiting = house.count(5);
        for (int done = 0; done <= waiting; done += 400) {
            house.ticks(2000);
        }
    }

    /** The first CELLS of a row of the terminal, without ATTRIBUTES, up to the last that is no BLANK. */
    static String row(TerminalHouse house, int y) {
        StringBuilder all = new StringBuilder();
        int end = 0;
        int cell = house.screen(y, 0);
        for (int x = 0; cell >= 0; x++) {
            all.append((char) (cell & 255));
            if (cell != 32) {
                end = x + 1;
            }
            cell = house.screen(y, x + 1);
        }
        return all.substring(0, end);
    }

    /** A house whose terminal gets the bytes just as they are written. */
    static TerminalHouse plainHouse(int rows, int columns) {
        TerminalHouse house = new TerminalHouse(rows, columns, 1);
        house.flags(0);
        return house;
    }

    static String times(String text, int n) {
        return text.repeat(n);
    }
}
