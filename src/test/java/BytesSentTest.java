/**
 * Promise 25 again: the very bytes of an update. The types' strings are letters here, so that the terminal, which is
 * larger than the program's screen, shows one behind the other what was sent to it.
 */
public final class BytesSentTest {
    final TerminalHouse house = new TerminalHouse(24, 80, 1);
    private int shown;

    private BytesSentTest(String fields) {
        house.flags(0);
        Check.due("describe " + fields, Check.describe(house, "t,\n cols#16, lines#4, " + fields + "\n"), 1);
        Check.due("use", Check.use(house, "t"), 0);
        Check.due("open", house.open(0, 0, 4, 16), 0);
    }

    BytesSentTest sends(String want) {
        house.show(0);
        int bytes = house.update();
        Check.rest(house);
        StringBuilder sent = new StringBuilder();
        for (int i = 0; i < bytes; i++) {
            sent.append((char) (house.screen(shown / 80, shown % 80) & 255));
            shown++;
        }
        Check.due("bytes sent", sent.toString(), want);
        return this;
    }

    BytesSentTest at(int y, int x) {
        house.at(0, y, x);
        return this;
    }

    BytesSentTest say(int attributes, String text) {
        house.dress(0, attributes);
        Check.say(house, 0, text);
        return this;
    }

    static BytesSentTest type(String fields) {
        return new BytesSentTest(fields);
    }

    public static void main(String[] args) {
        order();
        equalWays();
        equalSteps();
        tabs();
        copies();
        clothes();
        cells();
        rolls();
        otherTypes();
        Check.finish("BytesSentTest");
    }

    private static void order() {
        type("clear=L, cup=C%p1%d%p2%d, is=<i%p1%d>, sgr0=Z, csr=<s%p1%d%p2%d%p3%d>, bel=G, el=K,")
            .say(0, "\u0007ab").sends("G<i0>Z<s030>Lab").sends("").say(0, "\u0007").sends("G");
        type("clear=L, cup=C%p1%d%p2%d%p3%d%p4%d,").at(2, 3).sends("LC2300");
    }

    private static void equalWays() {
        String cup = "clear=, cup=C%p1%d%p2%d, ";
        // cup, then hpa, vpa, from here, from the first column, from home: the first of several
        type(cup + "hpa=hh%p1%d,").at(1, 1).sends("C11").at(1, 5).sends("C15");
        type(cup + "vpa=vv%p1%d,").at(1, 1).sends("C11").at(3, 1).sends("C31");
        type(cup + "hpa=h%p1%d, cuf=f%p1%d, cub=b%p1%d,").at(1, 1).sends("C11").at(1, 5).sends("h5").at(1, 2).sends("h2");
        type(cup + "vpa=v%p1%d, cud=d%p1%d, cuu=u%p1%d,").at(3, 0).sends("v3").at(1, 0).sends("v1");
        type(cup + "cub=b%p1%d, cr=RR, home=HH,").at(0, 5).sends("C05").at(0, 0).sends("b5");
        type(cup + "cr=RR, home=HH,").at(0, 5).sends("C05").at(0, 0).sends("RR");
        type(cup + "home=HH,").at(0, 5).sends("C05").at(0, 0).sends("HH");
        type(cup + "home=HHH,").at(0, 5).sends("C05").at(0, 0).sends("C00");
        // hpa in its row alone, vpa in its column alone
        type(cup + "hpa=h, vpa=v,").at(1, 1).sends("C11").at(2, 1).sends("v").at(2, 2).sends("h").at(3, 3).sends("C33");
        // cup is measured with its own numbers
        type(cup + "cuf=f%p1%d,").at(0, 10).sends("f10").at(1, 10).sends("C110").at(0, 0).sends("C00");
        type(cup + "hpa=hhh, cuf=f%p1%d,").at(0, 10).sends("hhh").at(0, 1).sends("C01").at(0, 9).sends("f8");
        // ahead of where it is by cr, and down
        type("clear=, cup=CCCC%p1%d%p2%d, cr=R, cud1=d, cuu1=u, cuf1=f,").at(0, 9).sends("CCCC09").at(2, 1)
            .sends("Rddf").at(0, 2).sends("uuf").at(0, 0).sends("R");
        type("clear=, cup=CCCCCC%p1%d%p2%d, home=H, cud1=d, cuf1=fff,").at(2, 2).sends("dd  ").at(1, 1)
            .sends("Hd ");
    }

    private static void equalSteps() {
        String cup = "clear=, cup=CCCC%p1%d%p2%d, ";
        type(cup + "cud1=d, cud=D%p1%d, cuu1=u, cuu=U%p1%d,").at(2, 0).sends("dd").at(0, 0).sends("uu").at(3, 0)
            .sends("D3").at(0, 0).sends("U3");
        type(cup + "cuf1=f, cuf=F%p1%d, cub1=b, cub=B%p1%d,").at(0, 2).sends("ff").at(0, 0).sends("bb").at(0, 3)
            .sends("F3").at(0, 0).sends("B3");
        type(cup + "cud=D%p1%d, cuu1=u,").at(1, 0).sends("D1").at(0, 0).sends("u");
        type(cup + "cub1=bb, cud1=d,").at(1, 0).sends("d").at(0, 0).sends("CCCC00");
    }

    private static void tabs() {
        String cup = "clear=, cup=CCCC%p1%d%p2%d, ";
        String it = cup + "it#4, ht=T, ";
        type(it + "cuf1=f, cub1=b,").at(0, 4).sends("T").at(0, 9).sends("Tf").at(0, 8).sends("b")
            .at(0, 15).sends("Tfff");
        type(it + "cuf=F,").at(0, 8).sends("F").at(0, 15).sends("F");
        // from the last stop on there is no cuf, so tabs are no way
        type(it).at(0, 8).sends("TT").at(0, 9).sends(" ").at(0, 15).sends("      ");
        // equal: a or b ahead of tabs, tabs ahead of the known bytes
        type(it + "cuf1=f,").at(0, 3).sends("fff").at(0, 4).sends("f");
        type(it).at(0, 3).sends("   ").at(0, 4).sends("T").at(0, 7).sends("   ").at(0, 8).sends("T");
        type(cup + "it#1, ht=T,").at(0, 3).sends("TTT");
        type(cup + "it#0, ht=T,").at(0, 3).sends("   ");
        type(cup + "ht=T,").at(0, 3).sends("   ");
        type(cup + "it#4,").at(0, 4).sends("    ");
        type(cup + "it#20, ht=T,").at(0, 4).sends("    ");
    }

    private static void copies() {
        String cup = "clear=, cup=CCCC%p1%d%p2%d, cr=R, sgr0=Z, bold=<b>, ";
        type(cup).say(0, "abc").sends("Zabc").at(0, 0).sends("R").at(0, 2).sends("ab");
        // known bytes of other ATTRIBUTES are no way
        type(cup).say(1, "abc").sends("Z<b>abcZ").at(0, 0).sends("R").at(0, 2).sends("CCCC02");
        // with what is on they are: here of the bold ones, with msgr
        type("msgr, " + cup).say(1, "abcd").sends("Z<b>abcdZ").at(0, 0).say(1, "x").at(0, 3).say(1, "y")
            .sends("R<b>xbcyZ");
        type(cup).say(1, "abcd").sends("Z<b>abcdZ").at(0, 0).say(1, "x").at(0, 3).say(1, "y")
            .sends("R<b>xZCCCC03<b>yZ");
    }

    private static void clothes() {
        String all = "clear=, cup=C%p1%d%p2%d, sgr0=Z, bold=<b>, smul=<u>, blink=<k>, rev=<r>, ";
        type(all).say(15, "a").sends("Z<b><u><k><r>aZ");
        type(all).say(1, "a").say(3, "b").say(2, "c").say(0, "d").say(12, "e").sends("Z<b>a<u>bZ<u>cZd<k><r>eZ");
        type("clear=, cup=C%p1%d%p2%d, sgr0=Z, smul=<u>,").say(15, "a").say(13, "b").sends("Z<u>aZb");
        type("clear=, cup=C%p1%d%p2%d, smul=<u>,").say(15, "a").sends("a");
        type(all).say(1, "a").at(1, 0).say(1, "b").sends("Z<b>aZC10<b>bZ");
        type("msgr, " + all).say(1, "a").at(1, 0).say(1, "b").sends("Z<b>aC10bZ");
    }

    private static void cells() {
        String cup = "clear=, cup=C%p1%d%p2%d, ";
        type(cup).say(0, "abcd").sends("abcd").at(0, 1).say(0, "x").at(0, 3).say(0, "y").sends("C01xcy");
        // el, where the bytes that it spares are more than its own
        String el = cup + "el=KK, cub1=b, ";
        type(el).say(0, "abcde").sends("abcde").at(0, 3).say(0, "  ").sends("bb  ");
        type(el).say(0, "abcde").sends("abcde").at(0, 2).say(0, "   ").at(0, 0).sends("C02KKbb");
        type(el).say(0, "abcde").sends("abcde").at(0, 0).say(0, "x    ").sends("C00xKKC05");
        type(el + "sgr0=Z, rev=<r>,").say(0, "abcde").sends("Zabcde").at(0, 1).say(8, "    ").sends("C01<r>    Z");
        type(el + "sgr0=Z, rev=<r>,").say(8, "abcde").sends("Z<r>abcdeZ").at(0, 0).say(8, "x").say(0, "    ")
            .sends("C00<r>xZKKC05");
        type(cup + "el=,").say(0, "a").sends("a").at(0, 0).say(0, " ").sends("C00 ");
    }

    private static void rolls() {
        String cup = "clear=, cup=C%p1%d%p2%d, ind=I, ";
        BytesSentTest test = type(cup).say(0, "one\ntwo\nthree\nfour").sends("oneC10twoC20threeC30four");
        test.house.roll(0, 2);
        test.sends("C30IIC34");
        test.house.roll(0, -2);
        test.house.at(0, 0, 0);
        // rows go up alone: what is no more wanted is rolled away
        test.sends("C30IIC20threeC30fourC00");
        // all rows are unlike, but for one when it is rolled
        test = type(cup).say(0, "one\ntwo\nthree\nfour").sends("oneC10twoC20threeC30four").at(0, 0);
        test.say(0, "two\nx\ny\nz   ").sends("C30IC10x    C20y   C30zC34");
        test = type("clear=, cup=C%p1%d%p2%d,").say(0, "one\ntwo").sends("oneC10two");
        test.house.roll(0, 1);
        test.sends("C00twoC10   ");
    }

    private static void otherTypes() {
        BytesSentTest test = type("clear=, cup=C%p1%d%p2%d, sgr0=Z, bold=<b>, it#8, ht=T,").say(1, "a").sends("Z<b>aZ");
        test.say(0, "\u0007");
        Check.describe(test.house, "v,\n cols#10, lines#3, clear=L, cup=D%p1%d%p2%d, it#2, sgr0=Y, bel=G,\n");
        Check.due("use", Check.use(test.house, "v"), 0);
        Check.due("open", test.house.open(0, 0, 3, 10), 0);
        test.house.empty();
        Check.describe(test.house, "v,\n cols#10, lines#3, clear=L, cup=D%p1%d%p2%d, ht=T, sgr0=Y, bel=G,\n");
        Check.due("use", Check.use(test.house, "v"), 0);
        Check.due("open", test.house.open(0, 0, 3, 10), 0);
        test.say(1, "b").sends("YLb").at(0, 8).sends("D08").at(2, 9).sends("D29");
    }
}
