/** Promises 5 to 9: describe, fault, use, empty, ability. */
public final class DescriptionsTest {
    private static final String SCREEN = " cols#16, lines#4, clear=^L, cup=c%p1%d,\n";

    public static void main(String[] args) {
        right();
        wrongFirstLines();
        wrongFields();
        wrongStrings();
        wrongEscapes();
        wrongPercents();
        manyEntries();
        uses();
        usable();
        abilities();
        nothingChanges();
        cutTapes();
        Check.finish("DescriptionsTest");
    }

    /** A text in a new house, its fault's number and place (0 and NONE: none). */
    static void text(String text, int number, int place) {
        TerminalHouse house = new TerminalHouse(4, 16, 1);
        int answer = Check.describe(house, text);
        Check.due("describe " + text, answer < 0, number != 0);
        Check.due("fault(0) of " + text, house.fault(0), number);
        Check.due("fault(1) of " + text, house.fault(1), place);
        Check.due("entries", house.count(1), Math.max(0, answer));
        Check.due("the tape is empty", house.count(13), 0);
    }

    private static void right() {
        text("", 0, -1);
        text("\n\n", 0, -1);
        text("#c", 0, -1);
        text(" \t", 0, -1);
        text("# a comment, with anything|\n \t \n\n", 0, -1);
        text("a,", 0, -1);
        text("a,\n", 0, -1);
        text("a, \t\n am,xenl,\tmsgr, \n\n \n#c\n cols#0,\n", 0, -1);
        text("a|b|c|d,\n", 0, -1);
        text("abcdefghijkl|0-9+z,\n am,", 0, -1);
        text("a,\n cols#32767, lines#00001,\n", 0, -1);
        text("a,\n bel=, el=a b\tc$<x,\n", 0, -1);
        text("a,\n am@, cols@, bel@,\n", 0, -1);
        text("a,\nb,\n use=a,\n", 0, -1);
        String[] strings = {"bel", "clear", "home", "cup", "cuu1", "cud1", "cub1", "cuf1", "cuu", "cud",
            "cub", "cuf", "hpa", "vpa", "cr", "ht", "ind", "csr", "el", "sgr0", "bold", "smul", "blink",
            "rev", "is", "ri", "el1", "ed", "ech", "ich", "dch", "il", "dl"};
        StringBuilder all = new StringBuilder("a,\n cols#16, lines#4, it#8,\n am, xenl, msgr,\n");
        for (String s : strings) {
            all.append(' ').append(s).append("=<").append(s).append(">,\n");
        }
        TerminalHouse house = new TerminalHouse(4, 16, 1);
        Check.due("all abilities", Check.describe(house, all.toString()), 1);
        Check.use(house, "a");
        for (String s : strings) {
            Check.ability(house, s);
            Check.due(s, Check.out(house), "<" + s + ">");
        }
    }

    private static void wrongFirstLines() {
        text(" am,\n", 1, 1);
        text("#c\n \t#x\n", 1, 5);
        text("A,\n", 1, 0);
        text(",\n", 1, 0);
        text("a", 1, 1);
        text("a\n", 1, 1);
        text("a|,\n", 1, 2);
        text("a|", 1, 2);
        text("a||b,\n", 1, 2);
        text("a b,\n", 1, 1);
        text("a,x\n", 1, 2);
        text("a, am,\n", 1, 3);
        text("a,,\n", 1, 2);
        text("a\r,\n", 1, 1);
        text("a,\r\n", 1, 2);
        text("\u0080", 1, 0);
        text("# \u0007\n", 1, 2);
        text("# \u00ff", 1, 2);
        text(" \u007f\n", 1, 1);
        text("abcdefghijklm,\n", 2, 0);
        text("abcdefghijklm!\n", 2, 0);
        text("abcdefghijklm", 2, 0);
        text("abcdefghijklm\u0080", 1, 13);
        text("a|abcdefghijklm,\n", 2, 2);
        text("a|a,\n", 3, 2);
        text("a,\nb|a,\n", 3, 5);
        text("a,\na!\n", 3, 3);
        text("a,\na\u0001\n", 1, 4);
        text("a|b|c|d|e,\n", 11, 8);
        text("a|b|c|d|\n", 1, 8);
        text("a|b|c|d|a,\n", 3, 8);
        text("a|b|c|d|abcdefghijklm,\n", 2, 8);
        text("a|b|c|d|e\u0001\n", 1, 9);
        text("a|b|c|d|e", 11, 8);
    }

    private static void wrongFields() {
        text("a,\n 1am,\n", 1, 4);
        text("a,\n AM,\n", 1, 4);
        text("a,\n ,\n", 1, 4);
        text("a,\n am\n", 1, 6);
        text("a,\n am", 1, 6);
        text("a,\n am ,\n", 1, 6);
        text("a,\n am\u0001,\n", 1, 6);
        text("a,\n am@\n", 1, 7);
        text("a,\n am@", 1, 7);
        text("a,\n am@ ,\n", 1, 7);
        text("a,\n am, #c\n", 1, 8);
        text("a,\n abcdef,\n", 2, 4);
        text("a,\n abcdef\u0001,\n", 1, 10);
        text("a,\n abcdef!,\n", 2, 4);
        text("a,\n abcde,\n", 4, 4);
        text("a,\n a,\n", 4, 4);
        text("a,\n amm=,\n", 4, 4);
        text("a,\n xyz!\n", 4, 4);
        text("a,\n use,\n", 4, 4);
        text("a,\n uxe=a,\n", 4, 4);
        text("a,\n xse=a,\n", 4, 4);
        text("a,\n usx=a,\n", 4, 4);
        text("a,\n use@,\n", 4, 4);
        text("a,\n use#1,\n", 4, 4);
        text("a,\n use\n", 4, 4);
        text("a,\n use\u0001\n", 1, 7);
        text("a,\n cols,\n", 5, 8);
        text("a,\n bel,\n", 5, 7);
        text("a,\n am#1,\n", 5, 6);
        text("a,\n bel#1,\n", 5, 7);
        text("a,\n am=x,\n", 5, 6);
        text("a,\n cols=1,\n", 5, 8);
        text("a,\n am, am,\n", 6, 8);
        text("a,\n am, am!\n", 6, 8);
        text("a,\n am, am#1,\n", 6, 8);
        text("a,\n am@, am,\n", 6, 9);
        text("a,\n am, am@,\n", 6, 8);
        text("a,\n cols#1,\n cols#2,\n", 6, 13);
        text("a,\n cols#,\n", 1, 9);
        text("a,\n cols#x,\n", 1, 9);
        text("a,\n cols#-1,\n", 1, 9);
        text("a,\n cols#", 1, 9);
        text("a,\n cols#1\n", 1, 10);
        text("a,\n cols#1 ,\n", 1, 10);
        text("a,\n cols#32768,\n", 2, 9);
        text("a,\n cols#99999,\n", 2, 9);
        text("a,\n cols#000001,\n", 2, 9);
        text("a,\n cols#99999999999999999999,\n", 2, 9);
        text("a,\n cols#123456x\n", 2, 9);
        text("a,\n cols#123456\u0001\n", 1, 15);
        text("a,\n use=,\n", 1, 8);
        text("a,\n use=b,\n", 9, 8);
        text("a,\n use=a,\n", 9, 8);
        text("a,\n use=b\n", 9, 8);
        text("a,\n use=b\u0001", 1, 9);
        text("a,\n use=abcdefghijklm,\n", 2, 8);
        text("a,\n use=abcdefghijkl,\n", 9, 8);
        text("abcdefghijkl,\nb,\n use=abcdefghijkl,\n", 0, -1);
        text("a,\nb,\n use=a\n", 1, 12);
        text("a,\nb,\n use=c,\nc,\n", 9, 11);
        text("a,\nb,\n use=a, use=a, use=a, use=a,\n", 0, -1);
        text("a,\nb,\n use=a, use=a, use=a, use=a, use=a,\n", 11, 39);
        text("a,\nb,\n use=a, use=a, use=a, use=a, use=z,\n", 11, 39);
        text("a,\nb,\n use=a, use=a, use=a, use=a, use=abcdefghijklm,\n", 2, 39);
    }

    private static void wrongStrings() {
        text("a,\n bel=x\n", 1, 9);
        text("a,\n bel=x", 1, 9);
        text("a,\n bel=", 1, 8);
        text("a,\n bel=\n", 1, 8);
        text("a,\n bel=" + "x".repeat(41), 1, 49);
        text("a,\n bel=" + "x".repeat(41) + "\n", 1, 49);
        text("a,\n bel=" + "\\101".repeat(41) + "\n", 1, 172);
        text("a,\n bel=" + "x".repeat(41) + "\\", 10, 49);
        text("a,\n bel=x$<1\n", 1, 12);
        text("a,\n bel=x\u0001,\n", 1, 9);
        text("a,\n bel=" + "x".repeat(40) + ",\n", 0, -1);
        text("a,\n bel=" + "x".repeat(41) + ",\n", 2, 8);
        text("a,\n bel=" + "\\E".repeat(40) + ",\n", 0, -1);
        text("a,\n bel=" + "\\101".repeat(41) + ",\n", 2, 8);
        text("a,\n bel=" + "x".repeat(41) + "\\q,\n", 10, 49);
        text("a,\n bel=" + "x".repeat(41) + "\u0001,\n", 1, 49);
        text("a,\n bel=" + "x".repeat(40) + "%,\n", 2, 8);
        text("a,\n bel=" + "$<123>".repeat(50) + "x,\n", 0, -1);
    }

    private static void wrongEscapes() {
        text("a,\n bel=x\\", 10, 9);
        text("a,\n bel=x^", 10, 9);
        text("a,\n bel=x\\\n,\n", 10, 9);
        text("a,\n bel=x^\n,\n", 10, 9);
        text("a,\n bel=x\\\u0001,\n", 1, 10);
        text("a,\n bel=x^\u0080,\n", 1, 10);
        text("a,\n bel=\\e,\n", 10, 8);
        text("a,\n bel=\\8,\n", 10, 8);
        text("a,\n bel=\\000,\n", 10, 8);
        text("a,\n bel=\\400,\n", 10, 8);
        text("a,\n bel=\\777,\n", 10, 8);
        text("a,\n bel=\\12,\n", 10, 8);
        text("a,\n bel=\\128,\n", 10, 8);
        text("a,\n bel=\\1", 10, 8);
        text("a,\n bel=\\1\u0001", 1, 10);
        text("a,\n bel=\\12\u0001", 1, 11);
        text("a,\n bel=\\7\u0001", 1, 10);
        text("a,\n bel=^a,\n", 10, 8);
        text("a,\n bel=^,,\n", 10, 8);
        text("a,\n bel=^>,\n", 10, 8);
        text("a,\n bel=^`,\n", 10, 8);
        made("\\E\\n\\r\\t\\b\\f\\s\\\\\\^\\,\\:", "\u001b\n\r\t\b\f \\^,:");
        made("\\001\\377\\101", "\u0001\u00ffA");
        made("^@^A^Z^[^\\^]^^^_^?", "\0\u0001\u001a\u001b\u001c\u001d\u001e\u001f\u007f");
        made("$<1>$<12>$<123>a$<1234>$<>$<1x>$$<5>", "a$<1234>$<>$<1x>$");
        made("\\044<5>", "$<5>");
        made(" \t:|#@=", " \t:|#@=");
    }

    private static void made(String told, String meant) {
        TerminalHouse house = new TerminalHouse(4, 16, 1);
        Check.due("describe " + told, Check.describe(house, "a,\n bel=" + told + ",\n" + SCREEN), 1);
        Check.use(house, "a");
        Check.due("bytes", Check.ability(house, "bel"), meant.length());
        Check.due("made", Check.out(house), meant);
    }

    private static void wrongPercents() {
        String[] right = {"%%", "%d", "%2d", "%3d", "%02d", "%03d", "%c", "%p1%p4", "%'x'", "%'''", "%'%'",
            "%{0}", "%{32767}", "%{00001}", "%+%-%*%/%m%&%|%^%=%<%>%A%O%!%~%i", "%?%t%;", "%?a%tb%ec%;",
            "%?a%tb%ec%td%ee%;", "%?%t%e%t%;", "%?%?%t%;%t%?%t%;%;", "%?%?%?%?%t%;%t%;%t%;%t%;",
            "\\045d", "%'\\,'", "%?%t%;%?%t%e%;", "%?%t%e%t%e%t%e%;"};
        for (String s : right) {
            text("a,\n ed=" + s.replace("%^", "%\\^") + ",\n", 0, -1);
        }
        String[] wrong = {"%", "x%", "%1d", "%4d", "%2", "%2x", "%0d", "%00d", "%04d", "%02", "%02x", "%022d",
            "%p", "%p0", "%p5", "%'", "%'x", "%'xy'", "%''", "%{", "%{}", "%{1", "%{123456}", "%{000001}", "%{32768}",
            "%{1x}", "%{-1}", "%t", "%e", "%;", "%?", "%?%;", "%?%e%;", "%?%t", "%?%t%t%;", "%?%t%e%e%;",
            "%?%t%e", "%?%t%;%;", "%?%?%?%?%?%t%;%t%;%t%;%t%;%t%;", "%D", "%a", "% d", "%s", "%?%?%t%;%;",
            "\\045", "%\\001"};
        for (String s : wrong) {
            text("a,\n ed=" + s + ",\n", 8, 7);
        }
        // what an earlier string had is no part of this one
        text("a,\n ed=%p1%d, el=%p,\n", 8, 17);
        text("a,\n ed=%02d, el=%02,\n", 8, 16);
        text("a,\n ed=%'x', el=%'x,\n", 8, 16);
        text("a,\n ed=%{12}, el=%{12,\n", 8, 17);
        text("a,\n ed=%?%t%;, el=%?%t%,\n", 8, 18);
        // a line's end is a fault there, whatever the string before it is
        text("a,\n ed=%", 1, 8);
        text("a,\n ed=%{12", 1, 11);
        text("a,\n ed=%x\n", 1, 9);
        text("a,\n ed=%?%t\n am,\n", 1, 11);
        text("a,\n ed=%x\\,\n", 1, 11);
        text("a,\n ed=%\u0001,\n", 1, 8);
    }

    private static void manyEntries() {
        StringBuilder twelve = new StringBuilder();
        for (int i = 0; i < 12; i++) {
            twelve.append((char) ('a' + i)).append(",\n");
        }
        text(twelve + "", 0, -1);
        text(twelve + "m,\n", 7, 36);
        text(twelve + "abcdefghijklmn,\n", 7, 36);
        text(twelve + "#\n\n M,\n", 1, 40);
        text(twelve + "M,\n", 1, 36);
        text(twelve + "\u0080", 1, 36);
        TerminalHouse house = new TerminalHouse(4, 16, 1);
        Check.due("eleven", Check.describe(house, twelve.substring(0, 33)), 11);
        Check.due("two more", Check.describe(house, "x,\ny,\n"), -1);
        Check.due("fault(0)", house.fault(0), 7);
        Check.due("fault(1)", house.fault(1), 3);
        Check.due("one more", Check.describe(house, "x,\n"), 12);
        Check.due("none more", Check.describe(house, ""), 12);
        Check.due("fault(0)", house.fault(0), 0);
        house.empty();
        Check.due("count(1)", house.count(1), 0);
        Check.due("twelve again", Check.describe(house, twelve.toString()), 12);
    }

    private static void uses() {
        TerminalHouse house = new TerminalHouse(4, 16, 1);
        String text = "one,\n am, cols#16, bel=B1, el=E1,\n"
            + "two,\n am@, bel@, el=E2, ri=R2, it#4, use=one,\n"
            + "all|more,\n lines#4, clear=, cup=, use=two, use=one, ri@, dl=D,\n";
        Check.due("describe", Check.describe(house, text), 3);
        Check.due("use of another name", Check.use(house, "more"), 0);
        // two has cancelled am and bel, so one gives them
        Check.due("am", Check.ability(house, "am"), 1);
        Check.due("bel", Check.ability(house, "bel"), 2);
        Check.due("bel", Check.out(house), "B1");
        Check.ability(house, "el");
        Check.due("el by the first use", Check.out(house), "E2");
        Check.due("ri is cancelled", Check.ability(house, "ri"), -1);
        Check.due("it", Check.ability(house, "it"), 4);
        Check.due("cols through two", Check.ability(house, "cols"), 16);
        Check.due("dl behind use", Check.ability(house, "dl"), 1);
        Check.due("xenl", Check.ability(house, "xenl"), 0);
        Check.due("a later text", Check.describe(house, "new,\n use=all, am@, cols#20,\n"), 4);
        Check.due("use", Check.use(house, "new"), 0);
        Check.due("am", Check.ability(house, "am"), 0);
        Check.due("cols", Check.ability(house, "cols"), 20);
        Check.due("W", house.count(3), 20);
    }

    private static void usable() {
        TerminalHouse house = new TerminalHouse(4, 16, 1);
        Check.describe(house, "ok|k,\n" + SCREEN + "big,\n cols#80, lines#24, use=ok,\n"
            + "least,\n cols#4, lines#2, use=ok,\n"
            + "c3,\n cols#3, use=ok,\nc81,\n cols#81, use=ok,\nl1,\n lines#1, use=ok,\n"
            + "l25,\n lines#25, use=ok,\nnocols,\n cols@, use=ok,\nnolines,\n lines@, use=ok,\n"
            + "noclear,\n clear@, use=ok,\nnocup,\n cup@, use=ok,\n");
        Check.due("use of none", Check.use(house, "x"), -1);
        Check.due("use of nothing", Check.use(house, ""), -1);
        Check.due("use with a blank", Check.use(house, "ok "), -1);
        Check.due("nothing is in use", house.count(2), 0);
        Check.due("use", Check.use(house, "big"), 0);
        Check.due("L", house.count(2), 24);
        Check.due("W", house.count(3), 80);
        Check.due("use", Check.use(house, "least"), 0);
        Check.due("L", house.count(2), 2);
        Check.due("W", house.count(3), 4);
        Check.due("open", house.open(0, 0, 2, 4), 0);
        String[] cannot = {"c3", "c81", "l1", "l25", "nocols", "nolines", "noclear", "nocup"};
        for (String name : cannot) {
            Check.due("use of " + name, Check.use(house, name), -2);
            Check.due("tape", house.count(13), 0);
        }
        Check.due("use of none", Check.use(house, "none"), -1);
        Check.due("what was in use stays", house.count(3), 4);
        Check.due("windows stay", house.count(4), 1);
        Check.say(house, 0, "ab\u0007");
        Check.due("show", house.show(0), 2);
        Check.due("update", house.update() > 0, true);
        Check.due("known", house.known(0, 0), 'a');
        Check.say(house, 0, "\u0007");
        Check.due("use once more", Check.use(house, "least"), 0);
        Check.due("windows are closed", house.count(4), 0);
        Check.due("wanted is blank", house.wanted(0, 0), 32);
        Check.due("known is strange", house.known(0, 0), -1);
        Check.due("update is clear alone", house.update(), 1);
        house.open(0, 0, 1, 1);
        house.empty();
        Check.due("windows", house.count(4), 0);
        Check.due("L", house.count(2), 0);
        Check.due("W", house.count(3), 0);
        Check.due("look", house.look(0, 0, 0), -1);
        Check.due("use behind empty", Check.use(house, "ok"), -1);
        Check.due("ability behind empty", Check.ability(house, "cols"), -1);
        Check.due("expand behind empty", Check.expand(house, "cup", 0, 0, 0, 0), -1);
    }

    private static void abilities() {
        TerminalHouse house = new TerminalHouse(4, 16, 1);
        Check.describe(house, "t,\n xenl, it#0, el=%p1%d," + SCREEN);
        Check.due("without a type", Check.ability(house, "cols"), -1);
        Check.due("tape", house.count(13), 0);
        Check.use(house, "t");
        Check.due("am", Check.ability(house, "am"), 0);
        Check.due("xenl", Check.ability(house, "xenl"), 1);
        Check.due("it", Check.ability(house, "it"), 0);
        Check.due("el as it is", Check.ability(house, "el"), 5);
        Check.due("el", Check.out(house), "%p1%d");
        String[] none = {"", "a", "amm", "am ", " am", "cols ", "AM", "use", "ri", "linesx", "lines ", "xen"};
        for (String s : none) {
            Check.due("ability " + s, Check.ability(house, s), -1);
            Check.due("expand " + s, Check.expand(house, s, 0, 0, 0, 0), -1);
        }
        Check.due("the out stays", Check.out(house), "%p1%d");
        Check.due("expand of a flag", Check.expand(house, "xenl", 0, 0, 0, 0), -1);
        Check.due("expand of a number", Check.expand(house, "cols", 0, 0, 0, 0), -1);
        Check.due("tape", house.count(13), 0);
    }

    /** What the tape had behind its end is not looked at. */
    private static void cutTapes() {
        String text = "abcd|ef,\n am, cols#123, bel=x\\E%d^A\\101$<1>y,\n";
        for (int n = 0; n <= text.length(); n++) {
            TerminalHouse house = new TerminalHouse(4, 16, 1);
            Check.feed(house, text);
            house.end(n);
            int answer = house.describe();
            // whole are the first line, what ends with a comma, and BLANKS behind it
            boolean isWhole = n >= 8 && n <= 10 || n == 13 || n == 14 || n == 23 || n == 24 || n >= text.length() - 1;
            Check.due("cut at " + n, answer, n == 0 ? 0 : isWhole ? 1 : -1);
            Check.due("the place is at the end at most", house.fault(1) <= n, true);
        }
    }

    private static void nothingChanges() {
        TerminalHouse house = new TerminalHouse(4, 16, 1);
        Check.due("describe", Check.describe(house, "t,\n am," + SCREEN), 1);
        Check.due("use", Check.use(house, "t"), 0);
        Check.due("fault", Check.describe(house, "u,\n xenl," + SCREEN + "v,\n am\n"), -1);
        Check.due("entries", house.count(1), 1);
        Check.due("u is not there", Check.use(house, "u"), -1);
        Check.due("fault(0)", house.fault(0), 1);
        Check.due("fault(1)", house.fault(1) > 0, true);
        Check.due("u is free", Check.describe(house, "u,\n" + SCREEN), 2);
        Check.due("fault(0)", house.fault(0), 0);
        Check.due("fault(1)", house.fault(1), -1);
        Check.due("t is as it was", Check.ability(house, "am"), 1);
        Check.due("use", Check.use(house, "u"), 0);
        Check.due("u has no xenl", Check.ability(house, "xenl"), 0);
        Check.due("t is taken", Check.describe(house, "t,\n"), -1);
        Check.due("fault(0)", house.fault(0), 3);
        Check.due("fault(1)", house.fault(1), 0);
        Check.due("fault(-1)", house.fault(-1), -1);
    }
}
