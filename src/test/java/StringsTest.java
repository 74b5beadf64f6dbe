/** Promise 10: expand, and how STRINGS are put together. */
public final class StringsTest {
    public static void main(String[] args) {
        numbers();
        operations();
        choices();
        limits();
        Check.finish("StringsTest");
    }

    static void put(String string, int a, int b, int c, int d, String want) {
        TerminalHouse house = new TerminalHouse(4, 16, 1);
        String text = "t,\n cols#16, lines#4, clear=, cup=,\n ed=" + string + ",\n";
        Check.due("describe " + string, Check.describe(house, text), 1);
        Check.use(house, "t");
        Check.due("bytes of " + string, Check.expand(house, "ed", a, b, c, d), want.length());
        Check.due("expand " + string, Check.out(house), want);
        Check.due("tape", house.count(13), 0);
    }

    private static void numbers() {
        put("a%%b", 0, 0, 0, 0, "a%b");
        put("%p1%d", 0, 0, 0, 0, "0");
        put("%p1%d;%p2%d;%p3%d;%p4%d", 1, -2, 33, 400, "1;-2;33;400");
        put("%p1%d", Integer.MIN_VALUE, 0, 0, 0, "-2147483648");
        put("%p1%d", Integer.MAX_VALUE, 0, 0, 0, "2147483647");
        put("%p1%2d|%p2%2d|%p3%2d|%p4%2d", 5, 50, 500, -5, " 5|50|500|-5");
        put("%p1%3d|%p2%3d|%p3%3d|%p4%3d", 5, -5, -50, 1000, "  5| -5|-50|1000");
        put("%p1%02d|%p2%02d|%p3%02d|%p4%02d", 5, -5, -50, 0, "05|-5|-50|00");
        put("%p1%03d|%p2%03d|%p3%03d|%p4%03d", 5, -5, 0, 1234, "005|-05|000|1234");
        put("%p1%c%p2%c%p3%c", 'A', 256 + 'B', -1, 0, "AB\u00ff");
        put("%'x'%d%'%'%c%'''%c", 0, 0, 0, 0, "120%'");
        put("%{0}%d%{32767}%d%{007}%d", 0, 0, 0, 0, "0327677");
        put("%p1%d%i%p1%d%p2%d%p3%d%i%p1%d", 1, 5, 9, 0, "12693");
        put("%i%p1%d", Integer.MAX_VALUE, 0, 0, 0, "-2147483648");
    }

    private static void two(String operation, int x, int y, int want) {
        put("%p1%p2%" + operation + "%d", x, y, 0, 0, String.valueOf(want));
    }

    private static void operations() {
        int least = Integer.MIN_VALUE;
        two("+", 2, 3, 5);
        two("+", Integer.MAX_VALUE, 1, least);
        two("-", 2, 3, -1);
        two("-", least, 1, Integer.MAX_VALUE);
        two("*", -4, 3, -12);
        two("*", 65536, 65536, 0);
        two("/", 7, 2, 3);
        two("/", -7, 2, -3);
        two("/", 7, 0, 0);
        two("/", least, -1, least);
        two("m", 7, 3, 1);
        two("m", -7, 3, -1);
        two("m", 7, -3, 1);
        two("m", 7, 0, 0);
        two("m", least, -1, 0);
        two("&", 12, 10, 8);
        two("|", 12, 10, 14);
        two("\\^", 12, 10, 6);
        two("=", 3, 3, 1);
        two("=", 3, 4, 0);
        two("<", 3, 4, 1);
        two("<", 4, 4, 0);
        two("<", least, 1, 1);
        two(">", 5, 4, 1);
        two(">", 4, 4, 0);
        two("A", 2, 4, 1);
        two("A", 2, 0, 0);
        two("O", 0, 4, 1);
        two("O", 0, 0, 0);
        put("%p1%!%d%p2%!%d", 0, 5, 0, 0, "10");
        put("%p1%~%d", 5, 0, 0, 0, "-6");
        put("%d%c%+%d", 0, 0, 0, 0, "0\u00000");
        put("%p1%-%d", 5, 0, 0, 0, "-5");
    }

    private static void choices() {
        put("%?%p1%tyes%;.", 1, 0, 0, 0, "yes.");
        put("%?%p1%tyes%;.", 0, 0, 0, 0, ".");
        put("%?%p1%tyes%eno%;.", 7, 0, 0, 0, "yes.");
        put("%?%p1%tyes%eno%;.", 0, 0, 0, 0, "no.");
        String chain = "%?%p1%ta%e%p2%tb%e%p3%tc%ed%;.";
        put(chain, 1, 1, 1, 0, "a.");
        put(chain, 0, 1, 1, 0, "b.");
        put(chain, 0, 0, 1, 0, "c.");
        put(chain, 0, 0, 0, 0, "d.");
        String nested = "%?%p1%t%?%p2%tab%ea%;%e%?%p2%tb%;n%;.";
        put(nested, 1, 1, 0, 0, "ab.");
        put(nested, 1, 0, 0, 0, "a.");
        put(nested, 0, 1, 0, 0, "bn.");
        put(nested, 0, 0, 0, 0, "n.");
        // what is passed over is passed over token by token
        put("%?%p1%t%'%'%c%e%%e%{1}x%;.", 0, 0, 0, 0, "%ex.");
        put("%?%p1%ta%'%'%cb%ec%;", 0, 0, 0, 0, "c");
        put("%?%p1%t%%e%%;%ec%;", 0, 0, 0, 0, "c");
        // the stack stays as it is
        put("%p2%?%p1%t%{9}%;%d", 0, 4, 0, 0, "4");
        put("%p2%?%p1%t%{9}%;%d", 1, 4, 0, 0, "9");
    }

    private static void limits() {
        put("%p1".repeat(8) + "%p2%d%d", 1, 2, 0, 0, "11");
        put("%{1}%{2}%{3}%{4}%{5}%{6}%{7}%{8}%{9}%d", 0, 0, 0, 0, "8");
        put("%p1%d%p1%d%p1%d%p1%d%p1%d%p1%d%p1%d", Integer.MIN_VALUE, 0, 0, 0,
            "-2147483648".repeat(6).substring(0, 60));
        put("", 1, 2, 3, 4, "");
        TerminalHouse house = new TerminalHouse(4, 16, 1);
        Check.describe(house, "t,\n cols#16, lines#4, clear=, cup=, bel=%p4%d, dl=%p3%d,\n");
        Check.use(house, "t");
        Check.due("the first string", Check.expand(house, "bel", 1, 2, 3, 4), 1);
        Check.due("out", Check.out(house), "4");
        Check.due("the last string", Check.expand(house, "dl", 1, 2, 3, 4), 1);
        Check.due("out", Check.out(house), "3");
    }
}
