/** STRINGS PUT TOGETHER, sentence by sentence: the bounds that the document names (promise 10). */
public final class StringBoundsTest {
    private static final int LEAST = Integer.MIN_VALUE;
    private static final int MOST = Integer.MAX_VALUE;

    public static void main(String[] args) {
        sixtyBytes();
        stack();
        plainBytes();
        decimals();
        lowestBits();
        oneMore();
        onesAndTwos();
        wraps();
        choices();
        nested();
        refused();
        Check.finish("StringBoundsTest");
    }

    private static void put(String string, int a, int b, String want) {
        StringsTest.put(string, a, b, 0, 0, want);
    }

    private static void sixtyBytes() {
        Check.says("A STRING with four PARAMETERS (ints) becomes bytes (at most 60; what is beyond is left out).");
        String five = "%p1%d".repeat(5);
        String fifty = "-2147483648".repeat(5);
        put(five + "abcd", LEAST, 0, fifty + "abcd");
        put(five + "abcde", LEAST, 0, fifty + "abcde");
        put(five + "abcdef", LEAST, 0, fifty + "abcde");
        put(five + "abcd%%", LEAST, 0, fifty + "abcd%");
        put(five + "abcde%%", LEAST, 0, fifty + "abcde");
        put(five + "abcde%p1%c", LEAST, 0, fifty + "abcde");
        put(five + "%p2%d", LEAST, 12345, fifty + "12345");
        put(five + "%p2%d", LEAST, 1234567, fifty + "12345");
        put(five + "abc%p2%3d", LEAST, 1, fifty + "abc  ");
        put(five + "abc%p2%03d", LEAST, -1, fifty + "abc-0");
        put(five + "%?%p2%tabcdef%;", LEAST, 1, fifty + "abcde");
    }

    private static void stack() {
        Check.says("A stack of at most 8 ints (a 9th is not put; what is taken from an empty one is 0).");
        put("%p1%p1%p1%p1%p1%p1%p1%p2%d%d", 1, 2, "21");
        put("%p1%p1%p1%p1%p1%p1%p1%p1%p2%d%d", 1, 2, "11");
        put("%p1%p1%p1%p1%p1%p1%p1%p1%p2%d%p2%d", 1, 2, "12");
        put("%p2%p1%p1%p1%p1%p1%p1%p1%+%+%+%+%+%+%d%d", 1, 2, "72");
        put("%p1%p1%p1%p1%p1%p1%p1%p1%'x'%c", 'y', 0, "y");
        put("%p1%p1%p1%p1%p1%p1%p1%p1%{5}%d", 7, 0, "7");
        put("%p2%p1%p1%p1%p1%p1%p1%p1%!%d", 7, 3, "0");
        put("%d%d", 1, 2, "00");
        put("%c", 1, 2, "\0");
        put("%!%d%~%d", 1, 2, "1-1");
        put("%p1%+%d", 5, 0, "5");
        put("%p1%-%d", 5, 0, "-5");
        put("%p1%/%d", 5, 0, "0");
        put("%p1%<%d", 5, 0, "1");
        put("%=%d", 5, 0, "1");
        put("%p1%d%d", 5, 0, "50");
    }

    private static void plainBytes() {
        Check.says("Bytes are themselves but for: %% a %");
        for (int b = 1; b < 256; b++) {
            if (b != '%') {
                put("<\\" + b / 64 + b / 8 % 8 + b % 8 + ">", 0, 0, "<" + (char) b + ">");
            }
        }
        put("^@", 0, 0, "\0");
        put("%%%%p1", 0, 0, "%%p1");
        put("%%d", 0, 0, "%d");
        put("", 1, 2, "");
    }

    private static void decimals() {
        Check.says("%d takes one: in decimals, - ahead (with a width 2 or 3: BLANKS 32 ahead to so many bytes; 02, 03: zeros"
            + " behind the -)");
        int[] all = {0, 1, 9, 10, 11, 99, 100, 101, 999, 1000, 9999, 10000, 32767, 999999999, 1000000000, MOST, -1, -9, -10,
            -99, -100, -999, -1000, -1000000000, LEAST + 1, LEAST};
        for (int n : all) {
            put("%p1%d", n, 0, String.valueOf(n));
            put("%p1%2d", n, 0, String.format("%2d", n));
            put("%p1%3d", n, 0, String.format("%3d", n));
            put("%p1%02d", n, 0, String.format("%02d", n));
            put("%p1%03d", n, 0, String.format("%03d", n));
        }
    }

    private static void lowestBits() {
        Check.says("%c takes one: the byte of its lowest 8 bits");
        int[] all = {0, 1, 37, 127, 128, 255, 256, 257, 65535, MOST, -1, -255, -256, LEAST};
        for (int n : all) {
            put("%p1%c", n, 0, String.valueOf((char) (n & 255)));
        }
        Check.says("%'x' the byte, %{n} the number");
        put("%'\\001'%d%'\\377'%d%'^@'%d", 0, 0, "12550");
        put("%'%'%c%'''%c%'d'%c", 0, 0, "%'d");
        put("%{0}%d%{00000}%d%{32767}%d%{00010}%d", 0, 0, "003276710");
        Check.says("%p1 .. %p4 puts a PARAMETER");
        StringsTest.put("%p4%d%p3%d%p2%d%p1%d", 1, 2, 3, 4, "4321");
    }

    private static void oneMore() {
        Check.says("%i: the first two PARAMETERS are one more each from now on");
        StringsTest.put("%p1%i%p1%p2%p3%p4%d%d%d%d%d", 10, 20, 30, 40, "4030211110");
        StringsTest.put("%i%i%p1%d;%p2%d", -1, -2, 0, 0, "1;0");
        put("%i%p1%d;%p2%d", MOST, MOST, "-2147483648;-2147483648");
        TerminalHouse house = new TerminalHouse(4, 16, 1);
        Check.describe(house, "t,\n cols#16, lines#4, clear=, cup=, ed=%i%p1%d,\n");
        Check.use(house, "t");
        for (int i = 0; i < 3; i++) {
            Check.expand(house, "ed", 5, 5, 5, 5);
            Check.due("each time anew", Check.out(house), "6");
        }
    }

    private static void two(String operation, int x, int y, int want) {
        put("%p1%p2%" + operation + "%d%d", x, y, want + "0");
    }

    private static void onesAndTwos() {
        Check.says("%! (1 if it is 0, else 0) and %~ take one and put one");
        int[] all = {0, 1, 2, -1, LEAST, MOST};
        for (int n : all) {
            put("%p1%!%d%d", n, 0, (n == 0 ? 1 : 0) + "0");
            put("%p1%~%d%d", n, 0, ~n + "0");
        }
        Check.says("the others take y, then x, and put x + y, x - y, x * y, x / y (towards 0; 0 if y is 0), m: x less (x / y) * y"
            + " (0 if y is 0), & | ^ by bits, = < > 1 if so, else 0; A O: 1 if both are not 0, if one is not 0, else 0.");
        int[] some = {0, 1, 2, 7, -1, -7, LEAST, MOST};
        for (int x : some) {
            for (int y : some) {
                two("+", x, y, x + y);
                two("-", x, y, x - y);
                two("*", x, y, x * y);
                two("/", x, y, y == 0 ? 0 : x / y);
                two("m", x, y, y == 0 ? 0 : x % y);
                two("&", x, y, x & y);
                two("|", x, y, x | y);
                two("\\^", x, y, x ^ y);
                two("=", x, y, x == y ? 1 : 0);
                two("<", x, y, x < y ? 1 : 0);
                two(">", x, y, x > y ? 1 : 0);
                two("A", x, y, x != 0 && y != 0 ? 1 : 0);
                two("O", x, y, x != 0 || y != 0 ? 1 : 0);
            }
        }
    }

    private static void wraps() {
        Check.says("All wrap.");
        two("+", MOST, 1, LEAST);
        two("-", LEAST, 1, MOST);
        two("*", MOST, 2, -2);
        two("*", LEAST, -1, LEAST);
        two("/", LEAST, -1, LEAST);
        two("m", LEAST, -1, 0);
    }

    private static void choices() {
        Check.says("%t takes one: if it is 0 all is passed over up to the %e or %; that belongs to it, behind which it goes on.");
        int[] ones = {1, -1, 2, LEAST, MOST, 256};
        for (int n : ones) {
            put("a%?%p1%tb%ec%;d", n, 0, "abd");
            put("a%?%p1%tb%;d", n, 0, "abd");
        }
        put("a%?%p1%tb%ec%;d", 0, 0, "acd");
        put("a%?%p1%tb%;d", 0, 0, "ad");
        put("a%?%tb%ec%;d", 1, 1, "acd");
        put("%p2%?%p1%tb%;%d", 1, 7, "b7");
        put("%p2%?%p1%tb%;%d", 0, 7, "7");
        put("%?%p1%t%;%d", 3, 0, "0");
        put("%?x%p1%ty%;", 0, 0, "x");
        Check.says("%e that is come to otherwise: all up to its %; is passed over.");
        put("%?%p1%ta%eb%p1%tc%ed%;e", 1, 0, "ae");
        put("%?%p1%ta%e%p2%tb%ec%;d", 0, 1, "bd");
        put("%?%p1%ta%e%p2%tb%ec%;d", 0, 0, "cd");
        put("%?%p1%ta%e%p2%tb%;d", 0, 0, "d");
        put("%?%p1%ta%e%?%p2%tb%ec%;d%;e", 1, 1, "ae");
        put("%?%p1%ta%e%?%p2%tb%ec%;d%;e", 0, 1, "bde");
        put("%?%p1%ta%e%?%p2%tb%ec%;d%;e", 0, 0, "cde");
        Check.says("C, X, Y hold any of these");
        put("%?%p1%t%'e'%c%e%';'%c%;", 1, 0, "e");
        put("%?%p1%t%'%'%c%'e'%c%ex%;", 0, 0, "x");
        put("%?%p1%tx%e%'%'%c%';'%cy%;z", 1, 0, "xz");
        put("%?%p1%t%%e%%;%%t%ex%;", 0, 0, "x");
        put("%?%p1%t%%e%%;%%t%ex%;", 1, 0, "%e%;%t");
    }

    private static void nested() {
        Check.says("at most 4 %? within one another");
        String four = "%?%p1%t%?%p2%t%?%p3%t%?%p4%tx%;y%;z%;w%;";
        StringsTest.put(four, 1, 1, 1, 1, "xyzw");
        StringsTest.put(four, 1, 1, 1, 0, "yzw");
        StringsTest.put(four, 1, 1, 0, 1, "zw");
        StringsTest.put(four, 1, 0, 1, 1, "w");
        StringsTest.put(four, 0, 1, 1, 1, "");
        String inner = "%?%?%?%?%p1%t%p2%;%t%p3%;%t%p4%;%tx%;y";
        StringsTest.put(inner, 1, 1, 1, 1, "xy");
        StringsTest.put(inner, 1, 0, 1, 1, "y");
        StringsTest.put(inner, 1, 1, 1, 0, "y");
        StringsTest.put("%?%p1%t%?%p2%ta%eb%;%ec%?%p2%td%;e%;", 0, 1, 0, 0, "cde");
        StringsTest.put("%?%p1%t%?%p2%ta%eb%;%ec%?%p2%td%;e%;", 0, 0, 0, 0, "ce");
        StringsTest.put("%?%p1%t%?%p2%ta%eb%;%ec%?%p2%td%;e%;", 1, 0, 0, 0, "b");
    }

    private static void refused() {
        Check.says("NONE as ability(), also for FLAGS and NUMBERS.");
        TerminalHouse house = new TerminalHouse(4, 16, 1);
        Check.describe(house, "t,\n am, cols#16, lines#4, clear=x%p1%d, cup=, ed@,\n");
        Check.due("no type is in use", Check.expand(house, "clear", 1, 2, 3, 4), -1);
        Check.due("the tape is empty", house.count(13), 0);
        Check.use(house, "t");
        Check.due("a STRING", Check.expand(house, "clear", 45, 0, 0, 0), 3);
        String[] none = {"am", "xenl", "cols", "it", "ed", "el", "", "clea", "clearx", "Clear", " clear", "clear "};
        for (String name : none) {
            Check.due("expand " + name, Check.expand(house, name, 1, 2, 3, 4), -1);
            Check.due("the tape is empty", house.count(13), 0);
        }
        Check.due("THE OUT stays", Check.out(house), "x45");
        Check.due("an empty STRING", Check.expand(house, "cup", 1, 2, 3, 4), 0);
        Check.due("THE OUT is empty", Check.throwsAt(house, 0), true);
        house.empty();
        Check.due("no type is in use", Check.expand(house, "clear", 1, 2, 3, 4), -1);
    }
}
