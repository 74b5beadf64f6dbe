/** TO UPDATE, sentence by sentence: the bounds that the document names (promises 25 to 28). */
public final class UpdateBoundsTest {
    private static final String CUP = "clear=, cup=C%p1%d%p2%d, ";

    public static void main(String[] args) {
        strange();
        bells();
        rolling();
        rollingLastColumn();
        clearing();
        behindLastColumn();
        lastCell();
        dressing();
        offered();
        waysThatAreNone();
        motionDress();
        upAndDown();
        across();
        parameters();
        sixThousand();
        eightThousand();
        greatest();
        refused();
        Check.finish("UpdateBoundsTest");
    }

    private static BytesSentTest type(String fields) {
        return BytesSentTest.type(fields);
    }

    private static void strange() {
        Check.says("2. If it is STRANGE: is, sgr0, csr(0, L - 1), clear. KNOWN is BLANK then, its cursor 0, 0, nothing is ON, it is not"
            + " STRANGE.");
        String all = "is=i, sgr0=s, csr=r%p1%d%p2%d, clear=c, cup=C%p1%d%p2%d, ";
        type(all).sends("isr03c").sends("");
        String[] abilities = {"is=i, ", "sgr0=s, ", "csr=r%p1%d%p2%d, "};
        String[] left = {"sr03c", "ir03c", "isc"};
        for (int i = 0; i < 3; i++) {
            type(all.replace(abilities[i], "")).sends(left[i]);
        }
        type("clear=, cup=C,").sends("");
        BytesSentTest test = type(all).say(0, "ab").sends("isr03cab");
        Check.due("known", test.house.known(0, 0), 'a');
        Check.due("redraw", test.house.redraw(), true);
        Check.due("strange", test.house.known(0, 0), -1);
        Check.due("redraw again", test.house.redraw(), true);
        test.sends("isr03cab").sends("");
        Check.due("not strange", test.house.known(0, 15), 32);
        Check.says("The KNOWN screen is STRANGE; false without a type in use.");
        test.house.empty();
        Check.due("redraw without a type", test.house.redraw(), false);
    }

    private static void bells() {
        Check.says("1. bel, if a BELL is wanted (it is no more).");
        type("is=i, bel=b, " + CUP).say(0, "\u0007\u0007x").sends("bix").sends("").say(0, "\u0007").sends("b").sends("");
        type(CUP).say(0, "\u0007").sends("");
    }

    private static BytesSentTest four(String fields, String rows, String sent) {
        BytesSentTest test = type(fields);
        for (int y = 0; y < 4; y++) {
            test.at(y, 0).say(0, rows.substring(y, y + 1));
        }
        return test.at(0, 0).sends(sent);
    }

    private static BytesSentTest wanted(BytesSentTest test, String rows) {
        for (int y = 0; y < 4; y++) {
            test.at(y, 0).say(0, rows.substring(y, y + 1));
        }
        return test.at(0, 0);
    }

    private static void rolling() {
        Check.says("If there is ind, and the k with the fewest (the least k of several) is not 0: MOTION to L - 1, 0; ind k times; KNOWN is"
            + " moved so (its cursor stays).");
        String ind = CUP + "ind=I, ";
        String first = "aC10bC20cC30dC00";
        wanted(four(ind, "abcd", first), "bcd ").sends("C30IC00");
        wanted(four(ind, "abcd", first), "cd  ").sends("C30IIC00");
        wanted(four(ind, "abcd", first), "d   ").sends("C30IIIC00");
        // the rows that come in are BLANK
        wanted(four(ind, "abcd", first), "bcde").sends("C30IeC00");
        wanted(four(ind, "abcd", first), "dxyz").sends("C30IIIC10xC20yC30zC00");
        // several with the fewest: the least of them
        wanted(four(ind, "axxb", "aC10xC20xC30bC00"), "xqrs").sends("C30IC10qC20rC30sC00");
        wanted(four(ind, "abcd", first), "acqr").sends("C10cC20qC30rC00");
        wanted(four(ind, "   d", "C30dC00"), "    ").sends("C30 C00");
        wanted(four(ind, "a   ", "aC00"), "    ").sends("C30IC00");
        wanted(four(ind, "abcd", first), "    ").sends("C30IIIC00 C00");
        // nothing is better than k = 0 where all is alike, or where all is unlike
        wanted(four(ind, "abcd", first), "abcd").sends("");
        wanted(four(ind, "abcd", first), "wxyz").sends("wC10xC20yC30zC00");
        wanted(four(CUP, "abcd", first), "bcd ").sends("bC10cC20dC30 C00");
        // nothing to go: the cursor is there
        BytesSentTest test = wanted(four(ind, "abcd", first), "abcd").at(3, 0).sends("C30");
        wanted(test, "bcd ").at(3, 0).sends("I");
    }

    private static void rollingLastColumn() {
        Check.says("With am and without xenl the last column of the last row is never unlike (in 3, too), and never written.");
        String corner = "x".repeat(15) + "z";
        String[] flags = {"am, ", "am, xenl, ", ""};
        String row = "x".repeat(15);
        // a last row whose last column alone is unlike makes nothing roll, and is left alone
        BytesSentTest test = type("am, ind=I, " + CUP).at(3, 15).say(0, "z").at(0, 0).sends("");
        Check.due("known", test.house.known(3, 15), 32);
        Check.due("wanted", test.house.wanted(3, 15), 'z');
        test = type("am, xenl, ind=I, " + CUP).at(3, 15).say(0, "z").at(0, 0).sends("C315zC00");
        Check.due("known", test.house.known(3, 15), 'z');
        test = type("ind=I, " + CUP).at(3, 15).say(0, "z").at(0, 0).sends("C315zC00");
        Check.due("known", test.house.known(3, 15), 'z');
        for (String flag : flags) {
            test = type(flag + CUP).at(3, 0).say(0, corner).at(0, 0);
            test.sends("C30" + (flag.equals("am, ") ? row : corner) + "C00");
        }
        // rows 1 .. 3 go up; the last row is as BLANK but for its last column, which is not looked at
        test = type("am, ind=I, " + CUP).at(1, 0).say(0, "b").at(0, 0).sends("C10bC00");
        test.house.rows(0, -1);
        test.at(3, 15).say(0, "z").at(0, 0).sends("C30IC00");
    }

    private static void clearing() {
        Check.says("If el is there, and b + 1 - t is above the bytes of el: END is t, else b + 1.");
        String blanks = "   ";
        type(CUP + "el=EE,").say(0, "abcd").sends("abcd").at(0, 2).say(0, "  ").at(0, 0).sends("C02  C00");
        type(CUP + "el=EE,").say(0, "abcd").sends("abcd").at(0, 1).say(0, blanks).at(0, 0).sends("C01EEC00");
        type(CUP + "el=EEE,").say(0, "abcd").sends("abcd").at(0, 1).say(0, blanks).at(0, 0).sends("C01   C00");
        type(CUP).say(0, "abcd").sends("abcd").at(0, 1).say(0, blanks).at(0, 0).sends("C01   C00");
        type(CUP + "el=,").say(0, "ab").sends("ab").at(0, 1).say(0, " ").at(0, 0).sends("C01C00");
        Check.says("z is one behind the last CELL of WANTED in this row that is not BLANK (0), t the greater one of a and z.");
        // z is above a: x is written, then el behind it
        type(CUP + "el=E,").say(0, "abcdef").sends("abcdef").at(0, 1).say(0, "x    ").at(0, 0).sends("C01xEC00");
        // a is above z: what is alike ahead of a stays
        type(CUP + "el=E,").say(0, "a  def").sends("a  def").at(0, 3).say(0, blanks).at(0, 0).sends("C03EC00");
        // all of the row
        type(CUP + "el=E,").say(0, "abcdef").sends("abcdef").at(0, 0).say(0, "      ").at(0, 0).sends("C00E");
        // a dressed BLANK is not BLANK
        type(CUP + "el=E, sgr0=Z, rev=r,").say(0, "abcdef").sends("Zabcdef").at(0, 1).say(0, "    ").say(8, " ").at(0, 0)
            .sends("C01    r ZC00");
        // without its ATTRIBUTE being OFFERED it is
        type(CUP + "el=E, sgr0=Z,").say(0, "abcdef").sends("Zabcdef").at(0, 1).say(0, "    ").say(8, " ").at(0, 0)
            .sends("C01EC00");
        Check.says("Then, if END is t and that is not b + 1: MOTION to column t, DRESS 0, el; KNOWN is BLANK from t on in this row.");
        BytesSentTest test = type(CUP + "el=E, sgr0=Z, bold=b,").say(1, "abcdef").sends("ZbabcdefZ").at(0, 0).say(1, "x").say(0, "     ");
        test.at(0, 0).sends("C00bxZEC00");
        Check.due("known", test.house.known(0, 0), 'x' + 256);
        for (int x = 1; x < 16; x++) {
            Check.due("known", test.house.known(0, x), 32);
        }
        Check.says("Each CELL unlike from a on below END, from the left");
        type(CUP).say(0, "abcdefgh").sends("abcdefgh").at(0, 0).say(0, "AbcdefgH").at(1, 0).sends("C00AC07HC10");
        type(CUP).say(0, "abcdefgh").sends("abcdefgh").at(0, 0).say(0, "AbCdefgh").at(1, 0).sends("C00AbCC10");
    }

    private static void behindLastColumn() {
        Check.says("behind the last column it is not known if am is there and xenl, or it is the last row; 0 of the next row with am alone;"
            + " the last column stays without am");
        String row = "0123456789abcdef";
        String tail = CUP + "cr=R, cud1=D, ";
        type("am, " + tail).say(0, row + "x").at(0, 0).sends(row + "xC00");
        type("am, xenl, " + tail).say(0, row + "x").at(0, 0).sends(row + "C10xC00");
        type("xenl, " + tail).say(0, row + "x").at(0, 0).sends(row + "RDxC00");
        type(tail).say(0, row + "x").at(0, 0).sends(row + "RDxC00");
        // where it is, the wanted cursor being there: nothing; where it is not known: cup
        type("am, " + CUP).say(0, row).at(1, 0).sends(row);
        type("am, xenl, " + CUP).say(0, row).at(0, 15).sends(row + "C015");
        type(CUP).say(0, row).at(0, 15).sends(row);
        // home needs no cursor that is known, cr and the like do
        type("am, xenl, home=H, cr=R, cub1=B, hpa=, vpa=, cuu1=, " + CUP).say(0, row).at(0, 0).sends(row + "H");
        type("am, xenl, home=HHHH, cr=R, cub1=B, hpa=, vpa=, cuu1=, " + CUP).say(0, row).at(0, 0).sends(row + "C00");
        // the last row, with am and xenl
        type("am, xenl, " + CUP).at(3, 0).say(0, row).at(3, 0).sends("C30" + row + "C30");
    }

    private static void lastCell() {
        Check.says("With am and without xenl the last column of the last row is never unlike (in 3, too), and never written.");
        String row = "0123456789abcdef";
        type("am, " + CUP).at(3, 0).say(0, row).at(3, 15).sends("C30" + row.substring(0, 15));
        BytesSentTest test = type("am, " + CUP).at(3, 15).say(0, "z").at(0, 0).sends("").sends("");
        Check.due("known", test.house.known(3, 15), 32);
        // the last column of other rows is
        type("am, " + CUP).at(2, 15).say(0, "z").at(0, 0).sends("C215zC00");
    }

    private static String on(int attributes) {
        StringBuilder all = new StringBuilder();
        for (int i = 0; i < 4; i++) {
            all.append((attributes >> i & 1) != 0 ? "bukr".substring(i, i + 1) : "");
        }
        return all.toString();
    }

    private static void dressing() {
        Check.says("DRESS t: if something is ON that t has not: sgr0, nothing is ON. Then bold, smul, blink, rev, those of t that are not"
            + " ON, in this order.");
        String all = CUP + "sgr0=Z, bold=b, smul=u, blink=k, rev=r, ";
        for (int from = 0; from < 16; from++) {
            for (int to = 0; to < 16; to++) {
                String between = (from & ~to) != 0 ? "Z" + on(to) : on(to & ~from);
                BytesSentTest test = type(all).say(from, "x").say(to, "y");
                test.sends("Z" + on(from) + "x" + between + "y" + (to != 0 ? "Z" : ""));
                Check.due("ON", test.house.count(14), 0);
                Check.due("known", test.house.known(0, 1), 'y' + 256 * to);
            }
        }
    }

    private static void offered() {
        Check.says("an attribute is OFFERED if its STRING (bold, smul, blink, rev) and sgr0 are there; the WANTED screen is taken with"
            + " OFFERED ATTRIBUTES alone");
        String[] strings = {"bold=b, ", "smul=u, ", "blink=k, ", "rev=r, "};
        for (int have = 0; have < 16; have++) {
            StringBuilder fields = new StringBuilder(CUP);
            for (int i = 0; i < 4; i++) {
                fields.append((have >> i & 1) != 0 ? strings[i] : "");
            }
            BytesSentTest test = type(fields + "sgr0=Z, ").say(15, "x").sends("Z" + on(have) + "x" + (have != 0 ? "Z" : ""));
            Check.due("known", test.house.known(0, 0), 'x' + 256 * have);
            Check.due("wanted", test.house.wanted(0, 0), 'x' + 256 * 15);
            test.sends("");
            test = type(fields.toString()).say(15, "x").sends("x");
            Check.due("known without sgr0", test.house.known(0, 0), 'x');
        }
        // STRINGS that are empty are there
        BytesSentTest test = type(CUP + "sgr0=, bold=,").say(1, "x").sends("x");
        Check.due("known", test.house.known(0, 0), 'x' + 256);
        // cells that differ in what is not OFFERED are alike
        type(CUP).say(0, "x").sends("x").at(0, 0).say(15, "x").sends("");
    }

    private static void waysThatAreNone() {
        Check.says("(A way is none if something in it is not there.");
        String far = "clear=, cup=CCCCCCCC%p1%d%p2%d, ";
        String byCup = "CCCCCCCC";
        // down alone is there, but not up; right, but not left
        type(far + "cud1=D, ").at(2, 0).sends("DD").at(0, 0).sends(byCup + "00");
        type(far + "cuf1=F, ").at(0, 3).sends("FFF").at(0, 0).sends(byCup + "00");
        type(far + "cuu1=U, ").at(2, 0).sends(byCup + "20").at(1, 0).sends("U");
        type(far + "cub1=B, ").at(1, 3).sends(byCup + "13").at(1, 1).sends("BB");
        type(far + "cr=R, ").at(1, 3).sends(byCup + "13").at(1, 0).sends("R").at(2, 0).sends(byCup + "20");
        type(far + "home=H, ").at(1, 3).sends(byCup + "13").at(0, 0).sends("H").at(0, 2).sends("  ").at(1, 0).sends(byCup + "10");
        type(far + "hpa=h%p1%d, ").at(1, 3).sends(byCup + "13").at(1, 9).sends("h9").at(2, 9).sends(byCup + "29");
        type(far + "vpa=v%p1%d, ").at(1, 3).sends(byCup + "13").at(3, 3).sends("v3").at(2, 1).sends(byCup + "21");
        Check.says("MOTION to row v, column u: nothing if the cursor is there.");
        type(far).sends("").at(1, 1).sends(byCup + "11").sends("").at(1, 1).sends("");
    }

    private static void motionDress() {
        Check.says("Else, if something is ON and there is no msgr: sgr0, nothing is ON.");
        String all = CUP + "sgr0=Z, bold=b, ";
        type(all).say(1, "a").at(1, 0).say(1, "c").at(0, 0).sends("ZbaZC10bcZC00");
        type("msgr, " + all).say(1, "a").at(1, 0).say(1, "c").at(0, 0).sends("ZbaC10cZC00");
        // no MOTION, no sgr0
        type(all).say(1, "ac").at(0, 0).sends("ZbacZC00");
        Check.says("d the bytes of KNOWN from x to u - 1 in row v, if the ATTRIBUTES of all of these are just what is ON (as this MOTION has"
            + " left it).");
        String far = "clear=, cup=CCCCC%p1%d%p2%d, cr=R, sgr0=Z, bold=b, ";
        type(far).say(0, "ab").say(1, "cd").say(0, "ef").sends("ZabbcdZef").at(0, 0).sends("R").at(0, 2).sends("ab")
            .at(0, 3).sends("CCCCC03").at(0, 4).sends("CCCCC04").at(0, 6).sends("ef");
        type("msgr, " + far).say(1, "abcd").sends("ZbabcdZ").at(0, 0).say(1, "x").at(0, 3).say(1, "y").at(0, 4).sends("RbxbcyZ");
        type(far).say(1, "abcd").sends("ZbabcdZ").at(0, 0).say(1, "x").at(0, 3).say(1, "y").at(0, 4).sends("RbxZCCCCC03byZ");
    }

    private static void upAndDown() {
        Check.says("DOWN by n: cud1 n times, or cud(n); UP: cuu1, cuu(n); of both the one with fewer bytes, the first one of equals.");
        String far = "clear=, cup=CCCCCCCC%p1%d%p2%d, ";
        String both = far + "cud1=d, cud=D%p1%d, cuu1=u, cuu=U%p1%d, ";
        type(both).at(1, 0).sends("d").at(3, 0).sends("dd").at(0, 0).sends("U3").at(3, 0).sends("D3").at(1, 0).sends("uu").at(0, 0).sends("u");
        type(far + "cud=D%p1%d, cuu=U%p1%d, ").at(1, 0).sends("D1").at(0, 0).sends("U1");
        type(far + "cud1=ddd, cuu1=uuu, ").at(3, 0).sends("ddddddddd").at(0, 0).sends("uuuuuuuuu");
        type(far + "cud1=dddd, cuu1=uuuu, ").at(3, 0).sends("CCCCCCCC30").at(0, 0).sends("CCCCCCCC00");
        type(far + "cud1=, cuu1=, ").at(3, 0).sends("").at(0, 0).sends("");
    }

    private static void across() {
        Check.says("ACROSS from x to u in row v: nothing if they are the same; to the right the first with the fewest bytes of: a cuf1 n"
            + " times; b cuf(n)");
        String far = "clear=, cup=CCCCCCCC%p1%d%p2%d, ";
        type(far + "cuf1=f, cuf=F%p1%d, ").at(0, 2).sends("ff").at(0, 5).sends("F3").at(0, 6).sends("f");
        // equal to the known bytes: these are the last of several
        type(far + "cuf1=f, ").at(0, 9).sends("fffffffff");
        type(far + "cuf1=ff, ").at(0, 4).sends("    ");
        Check.says("c, if ht and it (not 0) are there, and q, the greatest multiple of it not above u, is above x: ht as many times as there"
            + " are multiples of it above x up to q, then from q to u by the better of a and b (nothing if it is there)");
        String tab = far + "it#4, ht=t, cuf1=f, cuf=F%p1%d, cr=R, ";
        type(tab).at(0, 4).sends("t").at(0, 8).sends("t").at(0, 0).sends("R").at(0, 8).sends("F8").at(0, 0).sends("R").at(0, 5)
            .sends("F5").at(0, 9).sends("F4");
        type(far + "it#4, ht=t, cuf1=f, ").at(0, 4).sends("t").at(0, 5).sends("f").at(0, 9).sends("tf").at(0, 15).sends("tfff");
        type(far + "it#4, ht=t, cuf1=ff, cr=R, ").at(0, 12).sends("ttt").at(0, 0).sends("R").at(0, 3).sends("   ").at(0, 4).sends("t")
            .at(0, 5).sends(" ").at(0, 8).sends("t").at(0, 9).sends(" ");
        // from the very multiple on: the next one counts
        type(far + "it#4, ht=, cuf1=, cr=R, ").at(0, 9).sends("");
        type(far + "it#0, ht=t, ").at(0, 4).sends("    ");
        type(far + "it#4, ").at(0, 4).sends("    ");
        type(far + "ht=t, ").at(0, 4).sends("    ");
        type(far + "it#16, ht=t, ").at(0, 15).sends("CCCCCCCC015");
        type(far + "it#15, ht=t, ").at(0, 15).sends("t");
        type(far + "it#1, ht=, ").at(0, 15).sends("");
        type(far + "it#32767, ht=t, ").at(0, 3).sends("   ");
        Check.says("To the left: cub1 n times, or cub(n).");
        type(far + "cuf1=f, cub1=b, cub=B%p1%d, ").at(0, 9).sends("fffffffff").at(0, 7).sends("bb").at(0, 4).sends("B3").at(0, 3).sends("b");
    }

    private static void parameters() {
        Check.says("cup, hpa, vpa, cuu .. cuf, csr: put together with these PARAMETERS, the others 0; other STRINGS with 0, also where bytes"
            + " are counted.)");
        String rest = "%p2%d%p3%d%p4%d";
        String four = "%p1%d" + rest;
        String far = "clear=, cup=CCCCCCCCCCCC" + four + ", ";
        type(far).at(2, 3).sends("CCCCCCCCCCCC2300");
        type(far + "hpa=h" + four + ", ").at(0, 9).sends("h9000");
        type(far + "vpa=v" + four + ", ").at(3, 0).sends("v3000");
        type(far + "cuf=f" + four + ", cub=b" + four + ", ").at(0, 9).sends("f9000").at(0, 2).sends("b7000");
        type(far + "cud=d" + four + ", cuu=u" + four + ", ").at(3, 0).sends("d3000").at(1, 0).sends("u2000");
        type(far + "csr=<" + four + ">, ").sends("<0300>");
        type(far + "is=<" + four + ">, ").sends("<0000>");
        type(far + "sgr0=<" + four + ">, ").sends("<0000>");
        type("cup=C, clear=<" + four + ">, ").sends("<0000>");
        type(far + "bel=<" + four + ">, ").say(0, "\u0007").sends("<0000>");
        type(far + "home=<" + four + ">, ").at(0, 15).sends(" ".repeat(15)).at(0, 0).sends("<0000>");
        type(far + "cr=<" + four + ">, ").at(0, 15).sends(" ".repeat(15)).at(0, 0).sends("<0000>");
        type(far + "it#8, ht=<" + four + ">, ").at(0, 8).sends("<0000>");
        type(far + "cud1=<" + four + ">, ").at(1, 0).sends("<0000>");
        type(far + "cuf1=<%p1%d, ").at(0, 1).sends(" ").at(1, 0).sends("CCCCCCCCCCCC1000");
        type(far + "cub1=<%p1%d, ").at(0, 2).sends("  ").at(0, 1).sends("<0");
        type(far + "cuu1=<%p1%d, ").at(2, 0).sends("CCCCCCCCCCCC2000").at(1, 0).sends("<0");
        type("ind=<" + four + ">, " + CUP).say(0, "a").at(1, 0).say(0, "b").at(0, 0).sends("aC10bC00").say(0, "b").at(1, 0).say(0, " ")
            .at(0, 0).sends("C30<0000>C00");
        type("el=" + four + ", " + CUP).say(0, "abcdef").sends("abcdef").at(0, 0).say(0, "      ").at(0, 0).sends("C000000");
        String dressed = CUP + "sgr0=Z%p1%d%p2%d, bold=b%p1%d%p2%d, ";
        type(dressed).say(1, "x").sends("Z00b00xZ00");
        type(dressed).say(1, "x").at(1, 0).say(1, "y").at(0, 0).sends("Z00b00xZ00C10b00yZ00C00");
        // bytes are counted with just these: a STRING that is longer with 0 than with others, and the other way round
        String cuf1 = "cuf1=%?%p1%tf%effff%;, ";
        type(far + cuf1).at(0, 2).sends("  ");
        type(far + "cuf=%?%p1%tf%effff%;, ").at(0, 2).sends("f");
        type(far + "cuf=%?%p1%tffff%ef%;, ").at(0, 2).sends("  ");
        type(far + "hpa=%?%p2%th%ehhhhhh%;, ").at(0, 5).sends("     ");
        type("el=%?%p1%tEEEE%eE%;, " + CUP).say(0, "abc").sends("abc").at(0, 0).say(0, "   ").at(0, 0).sends("C00E");
    }

    /** A type whose cells are dear: n bold ones of 24 rows, and some plain ones. */
    private static TerminalHouse dear(int stripes, int plain) {
        String forty = "x".repeat(40);
        TerminalHouse house = new TerminalHouse(24, 80, 1);
        Check.describe(house, "t,\n am, xenl, cols#80, lines#24, clear=, cup=c, bel=b, sgr0=" + forty + ", bold=" + forty + ",\n");
        Check.use(house, "t");
        for (int i = 0; i < stripes; i++) {
            int w = house.open(0, 2 + 3 * i, 24, 1);
            house.dress(w, 1);
            Check.say(house, w, "y".repeat(24));
            house.show(w);
        }
        int w = house.open(0, 40, 2, 40);
        Check.say(house, w, "z".repeat(plain));
        house.show(w);
        return house;
    }

    private static void sixThousand() {
        Check.says("If these were more than 6000 bytes, or THE QUEUE (IV) had no room for all, nothing is done (NONE; the BELL is still"
            + " wanted).");
        // sgr0; 72 times cup, bold, y and sgr0; cup and 40 z; cup and 13 z; cup
        TerminalHouse house = dear(3, 53);
        Check.due("just 6000", house.update(), 6000);
        Check.due("queue", house.count(5), 6000);
        Check.due("known", house.known(1, 52), 'z');
        house = dear(3, 54);
        int row = house.count(15);
        int column = house.count(16);
        Check.due("6001", house.update(), -1);
        Check.due("the cursor is as it was", house.count(15), row);
        Check.due("the cursor is as it was", house.count(16), column);
        Check.due("queue", house.count(5), 0);
        Check.due("strange still", house.known(0, 0), -1);
        Check.due("wanted", house.wanted(1, 53), 'z');
        house = dear(3, 53);
        Check.say(house, 3, "\u0007");
        Check.due("6001 with the bell", house.update(), -1);
        Check.due("again", house.update(), -1);
        house.erase(2, 0);
        house.show(2);
        Check.due("the bell is still wanted", house.update(), 6001 - 24 * 82);
        Check.due("and then no more", house.update(), 0);
    }

    private static void eightThousand() {
        TerminalHouse house = dear(3, 53);
        Check.write(house, "x".repeat(2000));
        Check.due("just room", house.update(), 6000);
        Check.due("queue", house.count(5), 8000);
        Check.due("lost", house.count(18), 0);
        Check.due("nothing needs no room", house.update(), 0);
        house = dear(3, 53);
        Check.write(house, "x".repeat(2001));
        Check.due("no room", house.update(), -1);
        Check.due("queue", house.count(5), 2001);
        Check.due("nothing is lost", house.count(18), 0);
        Check.due("strange still", house.known(0, 0), -1);
        house.ticks(1);
        Check.due("room by one that is sent", house.update(), 6000);
        Check.due("queue", house.count(5), 8000);
        Check.due("COLUMN", house.count(10), 2001);
    }

    /** The greatest screen: 24 rows of 80 columns. */
    private static void greatest() {
        Check.says("The program's screen has L = lines rows of W = cols CELLS then.");
        TerminalHouse house = new TerminalHouse(24, 80, 1);
        house.flags(0);
        Check.describe(house, "t,\n am, xenl, cols#80, lines#24, it#8, clear=, cup=C%p1%2d%p2%2d, ind=I, el=E, ht=T, cuf1=F, cr=R, cud1=D, home=H,\n");
        Check.use(house, "t");
        house.open(0, 0, 24, 80);
        house.box(0);
        house.show(0);
        // 80 in the first row, and behind cup in the last; in the others HD, HDD, HDDD or cup, |, cup, |; then home
        Check.due("the edge", house.update(), 80 + 5 + 80 + (2 + 3 + 4 + 19 * 5) + 22 * (1 + 5 + 1) + 1);
        Check.due("the last cell", house.known(23, 79), '+');
        house.roll(0, 23);
        house.show(0);
        // cup to 23, 0; ind 23 times; home
        Check.due("rolled by 23", house.update(), 5 + 23 + 1);
        Check.due("the edge's last row", house.known(0, 79), '+');
        Check.due("BLANK", house.known(23, 79), 32);
        house.at(0, 23, 79);
        house.show(0);
        // TTTTTTTTTFFFFFFF and 23 D are more than cup
        Check.due("to the last cell", house.update(), 5);
        house.scrolls(0, true);
        Check.due("it scrolls", Check.say(house, 0, "x"), 1);
        house.show(0);
        // cr, ind; cup and x in the row above; the cursor is not known behind it: cup
        Check.due("rolled by 1", house.update(), 1 + 1 + 5 + 1 + 5);
    }

    private static void refused() {
        Check.says("NONE: no type is in use, they are too many.");
        TerminalHouse house = new TerminalHouse(4, 16, 1);
        Check.due("no type is in use", house.update(), -1);
        Check.due("queue", house.count(5), 0);
        Check.says("A CELL of the KNOWN screen; NONE if there is none such, or it is STRANGE.");
        BytesSentTest test = type(CUP).say(0, "a");
        Check.due("strange", test.house.known(0, 0), -1);
        test.sends("a");
        int[] rows = {Integer.MIN_VALUE, -1, 0, 3, 4, Integer.MAX_VALUE};
        int[] columns = {Integer.MIN_VALUE, -1, 1, 15, 16, Integer.MAX_VALUE};
        for (int y : rows) {
            for (int x : columns) {
                boolean isThere = y >= 0 && y < 4 && x >= 0 && x < 16;
                Check.due("known " + y + " " + x, test.house.known(y, x), isThere ? 32 : -1);
                Check.due("wanted " + y + " " + x, test.house.wanted(y, x), isThere ? 32 : -1);
            }
        }
        Check.due("known", test.house.known(0, 0), 'a');
    }
}
