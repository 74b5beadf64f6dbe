/** DESCRIPTIONS, sentence by sentence: the bounds that the document names (promises 5 to 9). */
public final class TextBoundsTest {
    private static final String SCREEN = " cols#16, lines#4, clear=, cup=,\n";

    public static void main(String[] args) {
        tape();
        bytesOfTexts();
        linesPassedOver();
        firstLines();
        fields();
        abilities();
        numbers();
        stringEnds();
        octalEscapes();
        otherEscapes();
        delays();
        percents();
        percentForms();
        openChoices();
        uses();
        usesOfUses();
        faultsOfNames();
        faultsOfFields();
        faultOrder();
        thirteen();
        faultChangesNothing();
        nothingIsLeft();
        Check.finish("TextBoundsTest");
    }

    private static void text(String text, int number, int place) {
        DescriptionsTest.text(text, number, place);
    }

    private static void right(String text) {
        DescriptionsTest.text(text, 0, -1);
    }

    /** A house with a type in use that has these FIELDS. */
    private static TerminalHouse using(String fields) {
        TerminalHouse house = new TerminalHouse(4, 16, 1);
        Check.due("describe " + fields, Check.describe(house, "a,\n" + SCREEN + fields + "\n"), 1);
        Check.due("use", Check.use(house, "a"), 0);
        return house;
    }

    private static void made(String told, String meant) {
        TerminalHouse house = using(" bel=" + told + ",");
        Check.due("bytes of " + told, Check.ability(house, "bel"), meant.length());
        Check.due("made of " + told, Check.out(house), meant);
    }

    private static void tape() {
        Check.says("THE TAPE has at most 3000 bytes.");
        right("#" + "x".repeat(2999));
        text("#" + "x".repeat(2998) + "\u0001", 1, 2999);
        text("\n".repeat(2999) + "a", 1, 3000);
        right("\n".repeat(2998) + "a,");
    }

    private static void bytesOfTexts() {
        Check.says("its other bytes are 9 and 32 .. 126");
        for (int b = 0; b < 256; b++) {
            char c = (char) b;
            boolean isText = b == 9 || b == 10 || b >= 32 && b <= 126;
            text("#" + c + "\n", isText ? 0 : 1, isText ? -1 : 1);
            if (!isText) {
                text(String.valueOf(c), 1, 0);
                text(" " + c, 1, 1);
                text("a" + c, 1, 1);
                text("a|" + c, 1, 2);
                text("a," + c, 1, 2);
                text("a,\n" + c, 1, 3);
                text("a,\n " + c, 1, 4);
                text("a,\n am" + c, 1, 6);
                text("a,\n am@" + c, 1, 7);
                text("a,\n am," + c, 1, 7);
                text("a,\n it#" + c, 1, 7);
                text("a,\n it#1" + c, 1, 8);
                text("a,\n el=x" + c, 1, 8);
                text("a,\n el=\\" + c, 1, 8);
                text("a,\n el=\\0" + c, 1, 9);
                text("a,\n el=\\00" + c, 1, 10);
                text("a,\n el=^" + c, 1, 8);
                text("a,\n el=$<1" + c, 1, 10);
                text("a,\nb,\n use=" + c, 1, 11);
                text("a,\nb,\n use=a" + c, 1, 12);
            }
        }
        Check.says("each ended by byte 10 or the text's end");
        right("a,\n am,");
        right("a,\n am,\n");
        text("a,\r\n", 1, 2);
        text("a,\n am,\r\n", 1, 7);
    }

    private static void linesPassedOver() {
        Check.says("A LINE of BLANKS alone (or of nothing), or that begins with #, is passed over.");
        right("");
        right("\n");
        right(" ");
        right("\t");
        right("\t \t\n \n\n");
        right("#");
        right("#\n#,|\\^%$\n");
        TerminalHouse house = using("\n\n \t\n#x\n am,\n#y,\n\t\n it#3,\n \n");
        Check.due("told behind lines passed over", Check.ability(house, "am"), 1);
        Check.due("told behind lines passed over", Check.ability(house, "it"), 3);
        Check.says("BLANKS are 9 and 32.");
        right("a,\t \n\tam,\t it#1, \t\n");
        text("a,\u000b\n", 1, 2);
        text("a,\u00a0\n", 1, 2);
        Check.says("One that begins with another byte begins an ENTRY; one that begins with a BLANK goes on with it");
        text("a,\nam,\n", 0, -1);
        TerminalHouse two = new TerminalHouse(4, 16, 1);
        Check.due("am is a NAME here", Check.describe(two, "a,\nam,\n it#1,\n"), 2);
        text("a,\n#c\nit#1,\n", 1, 8);
        text("a,\n #c\n", 1, 4);
        Check.says("ahead of all ENTRIES: fault 1 at its first byte that is no BLANK");
        text(" am,\n", 1, 1);
        text("\tam,\n", 1, 1);
        text(" \t \tam,\n", 1, 4);
        text("\n#c\n  x", 1, 6);
        text(" \u0001", 1, 1);
        Check.due("ahead of all of this text", Check.describe(two, " it#1,\n"), -1);
        Check.due("fault", two.fault(0), 1);
        Check.due("place", two.fault(1), 1);
    }

    private static void firstLines() {
        Check.says("one to four NAMES, | between two, then a comma, BLANKS perhaps");
        right("a,");
        right("a|b, \t\n");
        right("a|b|c|d,\n");
        text("a|b|c|d|e,\n", 11, 8);
        text("a|b|c|d|e|f,\n", 11, 8);
        text("a|b|c|d|,\n", 1, 8);
        text("|a,\n", 1, 0);
        text("a|,\n", 1, 2);
        text("a ,\n", 1, 1);
        text("a |b,\n", 1, 1);
        text("a| b,\n", 1, 2);
        text("a, b,\n", 1, 3);
        text("a\n,\n", 1, 1);
        Check.says("A NAME: as many of a .. z, 0 .. 9, - and + as there are, one at least, at most 12.");
        for (int b = 33; b <= 126; b++) {
            char c = (char) b;
            boolean isName = b >= 'a' && b <= 'z' || b >= '0' && b <= '9' || b == '-' || b == '+';
            if (isName) {
                right(c + ",\n");
                right("x" + c + ",\n");
            } else if (b != '#') {
                text(c + ",\n", 1, 0);
            }
            if (!isName && b != ',' && b != '|') {
                text("x" + c + ",\n", 1, 1);
            }
        }
        right("abcdefghijkl,\n");
        text("abcdefghijklm,\n", 2, 0);
        right("a|012345678901|-+-+-+-+-+-+,\n");
        text("a|0123456789012,\n", 2, 2);
        TerminalHouse house = new TerminalHouse(4, 16, 1);
        Check.describe(house, "abcdefghijkl|k|-|+9,\n" + SCREEN);
        String[] names = {"abcdefghijkl", "k", "-", "+9"};
        for (String name : names) {
            Check.due("use of " + name, Check.use(house, name), 0);
        }
        String[] none = {"abcdefghijk", "abcdefghijklm", "", "+", "9", "kk", "K", "k,", "k|-"};
        for (String name : none) {
            Check.due("use of " + name, Check.use(house, name), -1);
        }
    }

    private static void fields() {
        Check.says("Its other LINES: FIELDS, each with BLANKS perhaps, then what it is, then a comma; behind the last one"
            + " BLANKS perhaps.");
        right("a,\n am,xenl, \tit#1,el=,\n");
        right("a,\n am, \t \n");
        right("a,\n am,");
        text("a,\n am", 1, 6);
        text("a,\n am\n", 1, 6);
        text("a,\n am,,\n", 1, 7);
        text("a,\n am,|\n", 1, 7);
        text("a,\n am, x1@,\n", 4, 8);
        Check.says("Nothing stands between these parts.");
        text("a,\n am ,\n", 1, 6);
        text("a,\n am @,\n", 1, 6);
        text("a,\n am@ ,\n", 1, 7);
        text("a,\n it #1,\n", 1, 6);
        text("a,\n it# 1,\n", 1, 7);
        text("a,\n it#1 ,\n", 1, 8);
        text("a,\n el =x,\n", 1, 6);
        text("a,\nb,\n use =a,\n", 4, 7);
        text("a,\nb,\n use= a,\n", 1, 11);
        text("a,\nb,\n use=a ,\n", 1, 12);
        text("a,\n it#1x,\n", 1, 8);
        text("a,\n it#1#1,\n", 1, 8);
        text("a,\n am@x,\n", 1, 7);
        Check.says("ABILITY @ (it has none, whatever USE tells)");
        TerminalHouse house = new TerminalHouse(4, 16, 1);
        Check.describe(house, "o,\n am, it#8, el=x,\n" + SCREEN + "n,\n use=o, am@, it@, el@,\n");
        Check.use(house, "n");
        Check.due("am", Check.ability(house, "am"), 0);
        Check.due("it", Check.ability(house, "it"), -1);
        Check.due("el", Check.ability(house, "el"), -1);
        Check.due("cols", Check.ability(house, "cols"), 16);
    }

    private static void abilities() {
        Check.says("an ABILITY (a letter a .. z, then as many letters and digits as there are, at most 5 in all)");
        for (int b = 33; b <= 126; b++) {
            char c = (char) b;
            boolean isLetter = b >= 'a' && b <= 'z';
            text("a,\n " + c + "m,\n", b == 'a' ? 0 : isLetter ? 4 : 1, b == 'a' ? -1 : 4);
        }
        right("a,\n lines#1, clear=, blink=, cuu1=,\n");
        text("a,\n linesx#1,\n", 2, 4);
        text("a,\n lines1,\n", 2, 4);
        text("a,\n aaaaaaaaaaaa@,\n", 2, 4);
        text("a,\n aaaaa@,\n", 4, 4);
        text("a,\n el2=,\n", 4, 4);
        text("a,\n cuu12=,\n", 4, 4);
        text("a,\n elL=,\n", 1, 6);
        String[] flags = {"am", "xenl", "msgr"};
        String[] numbers = {"cols", "lines", "it"};
        String[] strings = {"bel", "clear", "home", "cup", "cuu1", "cud1", "cub1", "cuf1", "cuu", "cud", "cub", "cuf",
            "hpa", "vpa", "cr", "ht", "ind", "csr", "el", "sgr0", "bold", "smul", "blink", "rev", "is", "ri", "el1", "ed",
            "ech", "ich", "dch", "il", "dl"};
        for (String s : flags) {
            sorts(s, 0, 5, 5);
        }
        for (String s : numbers) {
            sorts(s, 5, 0, 5);
        }
        for (String s : strings) {
            sorts(s, 5, 5, 0);
        }
        Check.says("use is none but ahead of =");
        text("a,\n use,\n", 4, 4);
        text("a,\n use#1,\n", 4, 4);
        text("a,\n use@,\n", 4, 4);
        text("a,\n use\n", 4, 4);
        text("a,\n use1=a,\n", 4, 4);
        right("use,\n am,\nb,\n use=use,\n");
    }

    /** An ABILITY as a FLAG, a NUMBER, a STRING: what fault each has, and that it can be cancelled. */
    private static void sorts(String ability, int asFlag, int asNumber, int asString) {
        Check.says("5 an ABILITY told as another sort (at the # = or comma behind it).");
        int place = 4 + ability.length();
        text("a,\n " + ability + ",\n", asFlag, asFlag == 0 ? -1 : place);
        text("a,\n " + ability + "#1,\n", asNumber, asNumber == 0 ? -1 : place);
        text("a,\n " + ability + "=x,\n", asString, asString == 0 ? -1 : place);
        text("a,\n " + ability + "=\u0001,\n", asString == 0 ? 1 : 5, asString == 0 ? place + 1 : place);
        right("a,\n " + ability + "@,\n");
    }

    private static void numbers() {
        Check.says("ABILITY # NUMBER (digits, as many as there are, at most 5, up to 32767)");
        String[] right = {"0", "00000", "9", "00009", "10000", "32766", "32767"};
        for (String n : right) {
            Check.due("it#" + n, Check.ability(using(" it#" + n + ","), "it"), Integer.parseInt(n));
        }
        String[] wrong = {"32768", "40000", "99999", "000000", "032767", "100000", "4294967297", "65536000001"};
        for (String n : wrong) {
            text("a,\n it#" + n + ",\n", 2, 7);
        }
        text("a,\n it#,\n", 1, 7);
        text("a,\n it#-1,\n", 1, 7);
        text("a,\n it#+1,\n", 1, 7);
        text("a,\n it#a,\n", 1, 7);
    }

    private static void stringEnds() {
        Check.says("A STRING goes up to the next comma that is no part of an escape, or its LINE's end (fault 1 there); it"
            + " may be empty; made, it has at most 40 bytes.");
        made("", "");
        made("a\\,b", "a,b");
        made("a\\\\", "a\\");
        text("a,\n el=a\\,\n", 1, 10);
        text("a,\n el=a\\\\,b\n", 4, 11);
        text("a,\n el=a", 1, 8);
        text("a,\n el=a\n", 1, 8);
        text("a,\n el=", 1, 7);
        text("a,\n el=\n am,\n", 1, 7);
        made("x".repeat(40), "x".repeat(40));
        text("a,\n el=" + "x".repeat(41) + ",\n", 2, 7);
        made("\\,".repeat(40), ",".repeat(40));
        text("a,\n el=" + "\\,".repeat(41) + ",\n", 2, 7);
        made("^A".repeat(40), "\u0001".repeat(40));
        text("a,\n el=" + "^A".repeat(41) + ",\n", 2, 7);
        made("\\101".repeat(40), "A".repeat(40));
        text("a,\n el=" + "\\101".repeat(41) + ",\n", 2, 7);
        made("x".repeat(40) + "$<1>", "x".repeat(40));
        made("$".repeat(40), "$".repeat(40));
        text("a,\n el=" + "$".repeat(41) + ",\n", 2, 7);
        text("a,\n el=" + "x".repeat(200) + ",\n", 2, 7);
        for (int b = 32; b <= 126; b++) {
            if (",\\^%".indexOf(b) < 0) {
                made("<" + (char) b + ">", "<" + (char) b + ">");
            }
        }
    }

    private static void octalEscapes() {
        Check.says("or three digits 0 .. 7 (001 .. 377: that byte)");
        for (int n = 0; n < 512; n++) {
            String told = "\\" + n / 64 + n / 8 % 8 + n % 8;
            if (n == 0 || n > 255) {
                text("a,\n el=" + told + ",\n", 10, 7);
            } else if (n == '%') {
                text("a,\n el=" + told + ",\n", 8, 7);
            } else {
                made(told, String.valueOf((char) n));
            }
        }
        made("\\0011", "\u00011");
        for (int b = 32; b <= 126; b++) {
            if (b < '0' || b > '7') {
                text("a,\n el=\\1" + (char) b + "1,\n", 10, 7);
                text("a,\n el=\\11" + (char) b + ",\n", 10, 7);
            }
        }
    }

    private static void otherEscapes() {
        Check.says("Escapes: \\ and E 27, n 10, r 13, t 9, b 8, f 12, s 32, \\ ^ , : themselves");
        String told = "Enrtbfs\\^,:";
        String meant = "\u001b\n\r\t\b\f \\^,:";
        for (int b = 32; b <= 126; b++) {
            int i = told.indexOf(b);
            if (i >= 0) {
                made("<\\" + (char) b + ">", "<" + meant.charAt(i) + ">");
            } else {
                text("a,\n el=x\\" + (char) b + ",\n", 10, 8);
            }
        }
        text("a,\n el=x\\\t,\n", 10, 8);
        Check.says("^ and a byte 64 .. 95 (that less 64) or ? (127)");
        for (int b = 32; b <= 126; b++) {
            if (b >= 64 && b <= 95 || b == '?') {
                made("<^" + (char) b + ">", "<" + (char) (b == '?' ? 127 : b - 64) + ">");
            } else {
                text("a,\n el=x^" + (char) b + ",\n", 10, 8);
            }
        }
        Check.says("10 an escape that is none (at its \\ or ^, also where the text ends within it; but 1 at a byte of it that"
            + " no text has).");
        text("a,\n el=x\\", 10, 8);
        text("a,\n el=x^", 10, 8);
        text("a,\n el=x\\0", 10, 8);
        text("a,\n el=x\\00", 10, 8);
        text("a,\n el=x\\001", 1, 12);
        text("a,\n el=x\\\n", 10, 8);
        text("a,\n el=x^\n", 10, 8);
        text("a,\n el=x\\0\n", 10, 8);
        text("a,\n el=x\\00\n", 10, 8);
        text("a,\n el=x\\\u0001", 1, 9);
        text("a,\n el=x^\u0001", 1, 9);
        text("a,\n el=x\\0\u0001", 1, 10);
        text("a,\n el=x\\00\u0001", 1, 11);
    }

    private static void delays() {
        Check.says("$< and one to three digits and > is nothing; another $ is itself.");
        made("a$<0>b", "ab");
        made("a$<99>b", "ab");
        made("a$<999>b", "ab");
        made("a$<9999>b", "a$<9999>b");
        made("a$<>b", "a$<>b");
        made("a$<x>b", "a$<x>b");
        made("a$<1x>b", "a$<1x>b");
        made("a$<1b", "a$<1b");
        made("a$<-1>b", "a$<-1>b");
        made("a$<1 >b", "a$<1 >b");
        made("$", "$");
        made("$$", "$$");
        made("$$<1>$", "$$");
        made("$<$<1>", "$<");
        made("\\044<1>", "$<1>");
        made("$\\074" + "1>", "$<1>");
        made("$<\\061>", "$<1>");
        text("a,\n el=$<1", 1, 10);
        text("a,\n el=$<1,>\n", 1, 11);
    }

    private static void percents() {
        Check.says("Behind a % (a byte 37 that is made, also by an escape) of a made STRING must come");
        String alone = "%dc+-*/m&|^=<>AO!~i";
        for (int b = 32; b <= 126; b++) {
            char c = (char) b;
            String told = c == '\\' || c == '^' || c == ',' ? "%\\" + c : "%" + c;
            boolean isRight = alone.indexOf(c) >= 0;
            text("a,\n el=" + told + ",\n", isRight ? 0 : 8, isRight ? -1 : 7);
            text("a,\n el=x" + told + ",\n", isRight ? 0 : 8, isRight ? -1 : 7);
            text("a,\n el=\\045" + told.substring(1) + ",\n", isRight ? 0 : 8, isRight ? -1 : 7);
        }
        text("a,\n el=%\\001,\n", 8, 7);
        text("a,\n el=%\\377,\n", 8, 7);
        text("a,\n el=%,\n", 8, 7);
        text("a,\n el=%%%,\n", 8, 7);
        right("a,\n el=%%%%,\n");
        right("a,\n el=%p$<1>1,\n");
        right("a,\n el=%\\160\\061,\n");
    }

    private static void form(String told, boolean isRight) {
        text("a,\n el=" + told + ",\n", isRight ? 0 : 8, isRight ? -1 : 7);
    }

    private static void percentForms() {
        Check.says("% ; d, or one of 2 3 and d, or 0 and one of 2 3 and d; c; p and one of 1 .. 4; ' and any byte and '; { and"
            + " one to five digits (up to 32767) and }");
        for (int n = 0; n <= 9; n++) {
            form("%" + n + "d", n == 2 || n == 3);
            form("%0" + n + "d", n == 2 || n == 3);
            form("%1" + n + "d", false);
            form("%2" + n + "d", false);
            form("%p" + n, n >= 1 && n <= 4);
        }
        String[] cut = {"%2", "%3", "%0", "%02", "%03", "%p", "%'", "%'x", "%{", "%{1", "%{12345"};
        for (String s : cut) {
            form(s, false);
            form(s + "x", false);
        }
        form("%2c", false);
        form("%02c", false);
        form("%px", false);
        for (int b = 1; b < 256; b++) {
            form("%'\\" + b / 64 + b / 8 % 8 + b % 8 + "'", true);
        }
        form("%'^@'", true);
        form("%'''", true);
        form("%'%'", true);
        form("%''", false);
        form("%'xx'", false);
        form("%'x\"", false);
        form("%{}", false);
        form("%{0}", true);
        form("%{00000}", true);
        form("%{000000}", false);
        form("%{32767}", true);
        form("%{32768}", false);
        form("%{99999}", false);
        form("%{100000}", false);
        form("%{1.}", false);
        form("%{ 1}", false);
        form("%{+1}", false);
    }

    private static void openChoices() {
        Check.says("(Of a %? each %t comes behind %? or %e, %e behind %t, %; behind %t or %e, each with anything between but"
            + " these; none is open at the end.)");
        String[] right = {"%?%t%;", "%?%t%e%;", "%?%t%e%t%;", "%?%t%e%t%e%;", "%?a%tb%ec%td%ee%;", "%?%?%t%;%t%?%t%;%e%?%t%;%;",
            "%?%t%;%?%t%;"};
        for (String s : right) {
            form(s, true);
        }
        String[] wrong = {"%?", "%t", "%e", "%;", "%?%;", "%?%e", "%?%e%;", "%?%t", "%?%t%e", "%?%t%t%;", "%?%t%e%e%;",
            "%?%t%e%t%t%;", "%?%t%;%;", "%?%t%;%t", "%?%t%;%e", "%?%?%t%;", "%?%?%t%;%;", "%t%?%t%;", "%?%t%?%;%;"};
        for (String s : wrong) {
            form(s, false);
        }
        Check.says("at most 4 %? within one another");
        form("%?%?%?%?%t%;%t%;%t%;%t%;", true);
        form("%?%?%?%?%?%t%;%t%;%t%;%t%;%t%;", false);
        form("%?%t%?%t%?%t%?%t%;%;%;%;", true);
        form("%?%t%?%t%?%t%?%t%?%t%;%;%;%;%;", false);
        form("%?%t%;%?%t%;%?%t%;%?%t%;%?%t%;%?%t%;", true);
    }

    private static void uses() {
        Check.says("use: the ENTRY has what that one has (that was told ahead in this text, or was there; by any of its NAMES)"
            + " and this one does not tell itself, or by an earlier use");
        TerminalHouse house = new TerminalHouse(4, 16, 1);
        Check.due("describe", Check.describe(house, "o1|o2|o3|o4,\n am, it#8, bel=B, el=,\n" + SCREEN), 1);
        Check.due("by any NAME", Check.describe(house, "p1,\n use=o1,\np2,\n use=o2,\np3,\n use=o3,\np4,\n use=o4, it#2, bel=C,\n"
            + "p5,\n msgr, it#4, ri=R, bel=D, use=p4, am@,\n"), 6);
        for (int i = 1; i <= 3; i++) {
            Check.due("use", Check.use(house, "p" + i), 0);
            Check.due("am", Check.ability(house, "am"), 1);
            Check.due("it", Check.ability(house, "it"), 8);
            Check.due("an empty STRING is had, too", Check.ability(house, "el"), 0);
            Check.due("msgr", Check.ability(house, "msgr"), 0);
        }
        Check.use(house, "p4");
        Check.due("it tells it itself", Check.ability(house, "it"), 2);
        Check.ability(house, "bel");
        Check.due("it tells it itself", Check.out(house), "C");
        Check.use(house, "p5");
        Check.due("it tells it itself", Check.ability(house, "it"), 4);
        Check.due("by p4 and o4", Check.ability(house, "lines"), 4);
        Check.due("what it cancels it tells", Check.ability(house, "am"), 0);
        Check.due("that one is as it was", Check.use(house, "o1"), 0);
        Check.due("that one is as it was", Check.ability(house, "ri"), -1);
        Check.due("that one is as it was", Check.ability(house, "it"), 8);
    }

    private static void usesOfUses() {
        Check.says("what that one has cancelled that one has not, so a later use may give it");
        TerminalHouse house = new TerminalHouse(4, 16, 1);
        Check.due("describe", Check.describe(house, "a,\n am, it#1, el=A,\n" + SCREEN + "b,\n am@, it#2, el@,\nc,\n am@, it#3, el=C,\n"
            + "ab,\n use=a, use=b,\nba,\n use=b, use=a,\ncba,\n use=c, use=b, use=a,\nbca,\n use=b, use=c, use=a,\n"), 7);
        String[] names = {"ab", "ba", "cba", "bca"};
        int[] its = {1, 2, 3, 2};
        String[] els = {"A", "A", "C", "C"};
        for (int i = 0; i < names.length; i++) {
            Check.due("use " + names[i], Check.use(house, names[i]), 0);
            Check.due("am of " + names[i], Check.ability(house, "am"), 1);
            Check.due("it of " + names[i], Check.ability(house, "it"), its[i]);
            Check.ability(house, "el");
            Check.due("el of " + names[i], Check.out(house), els[i]);
        }
        Check.says("It is taken when the ENTRY's last LINE is through.");
        TerminalHouse late = new TerminalHouse(4, 16, 1);
        Check.due("describe", Check.describe(late, "o,\n am, xenl, it#8,\n" + SCREEN + "p,\n use=o,\n am@,\n\n#c\n it#2,\nq,\n use=p,"), 3);
        Check.use(late, "p");
        Check.due("told behind the use", Check.ability(late, "am"), 0);
        Check.due("told behind the use", Check.ability(late, "it"), 2);
        Check.due("by the use", Check.ability(late, "xenl"), 1);
        Check.due("its last LINE ends with the text", Check.use(late, "q"), 0);
        Check.due("by p", Check.ability(late, "it"), 2);
        Check.due("by o and p", Check.ability(late, "xenl"), 1);
    }

    private static void faultsOfNames() {
        Check.says("3 a NAME that is there already (in the house, or told in this text).");
        text("a,\na,\n", 3, 3);
        text("a|a,\n", 3, 2);
        text("a|b,\nc|d|b,\n", 3, 9);
        text("a|b|c|d|d,\n", 3, 8);
        right("a,\naa,\nb|ab,\n");
        TerminalHouse house = new TerminalHouse(4, 16, 1);
        Check.describe(house, "a|b,\n");
        Check.due("in the house", Check.describe(house, "c,\nd|b,\n"), -1);
        Check.due("fault", house.fault(0), 3);
        Check.due("place", house.fault(1), 5);
        house.empty();
        Check.due("not there any more", Check.describe(house, "c,\nd|b,\n"), 2);
        Check.says("9 use of a NAME that there isn't (at it; its own NAMES are not there for it).");
        text("a,\n use=a,\n", 9, 8);
        text("a|b,\n use=b,\n", 9, 10);
        text("a,\n use=b,\nb,\n", 9, 8);
        text("a,\nb,\n use=aa,\n", 9, 11);
        text("a,\nb,\n use=a, use=c,\n", 9, 18);
        right("a,\nb,\n use=a,\n");
        Check.says("11 the fifth NAME (at it), the fifth use of an ENTRY (at its NAME, ahead of 9).");
        text("abc|de|f|g|hij,\n", 11, 11);
        text("a,\nb,\n use=a,use=a,use=a,use=a,use=a,\n", 11, 35);
        text("a,\nb,\n use=a,use=a,use=a,use=a,use=x,\n", 11, 35);
        text("a,\nb,\n use=a,use=a,use=a,use=a,use=b,\n", 11, 35);
        text("a,\nb,\n use=a,use=a,use=a,use=a,use=,\n", 1, 35);
        right("a,\nb,\n use=a,use=a,use=a,use=a,\nc,\n use=a,use=a,use=a,use=a,\n");
    }

    private static void faultsOfFields() {
        Check.says("2 a NAME, ABILITY, NUMBER that is too long or too great, a STRING that is made too long.");
        text("abcdefghijklm,\n", 2, 0);
        text("a,\nb,\n use=abcdefghijklm,\n", 2, 11);
        text("a,\n abcdef,\n", 2, 4);
        text("a,\n it#123456,\n", 2, 7);
        text("a,\n it#32768,\n", 2, 7);
        text("a,\n el=" + "x".repeat(41) + ",\n", 2, 7);
        Check.says("4 an ABILITY there isn't");
        text("a,\n a,\n", 4, 4);
        text("a,\n col#1,\n", 4, 4);
        text("a,\n colss#1,\n", 4, 4);
        text("a,\n ame,\n", 4, 4);
        text("a,\n x@,\n", 4, 4);
        Check.says("6 an ABILITY told twice in one ENTRY (at its second time; behind 4).");
        text("a,\n am,am,\n", 6, 7);
        text("a,\n am,\n xenl, am@,\n", 6, 15);
        text("a,\n am@,am@,\n", 6, 8);
        text("a,\n it#1,it#1,\n", 6, 9);
        text("a,\n el=,el=,\n", 6, 8);
        text("a,\n el@,el=,\n", 6, 8);
        text("a,\n x,x,\n", 4, 4);
        right("a,\n am,\nb,\n am,\n use=a,\n");
        right("a,\n am,\nb,\n use=a, use=a, am,\n");
        Check.says("8 a % that is not as told (at the STRING's first byte, when it is read to its end, behind 2).");
        text("a,\n el=abc%,\n", 8, 7);
        text("a,\n el=%x\\q,\n", 10, 9);
        text("a,\n el=%x\u0001,\n", 1, 9);
        text("a,\n el=%x" + "x".repeat(39) + ",\n", 2, 7);
        text("a,\n el=%x" + "x".repeat(38) + ",\n", 8, 7);
        text("a,\n el=" + "x".repeat(40) + "%x,\n", 2, 7);
    }

    private static void faultOrder() {
        Check.says("FAULTS, the first that reading (byte by byte) comes to; of several at one place the least; a token's own"
            + " when it was read to its end, at its first byte.");
        text("a,\n am,am,xyz,\n", 6, 7);
        text("a|a|abcdefghijklm,\n", 3, 2);
        text("a|b|c|d|abcdefghijklm,\n", 2, 8);
        text("a|b|c|d|a,\n", 3, 8);
        text("a,\nb,\n use=a,use=a,use=a,use=a,use=abcdefghijklm,\n", 2, 35);
        text("a,\n abcdef#x\n", 2, 4);
        text("abcdefghijklm?\n", 2, 0);
        text("a,\na?\n", 3, 3);
        text("a,\n it#99999?\n", 2, 7);
        text("a,\n am,am?\n", 6, 7);
        text("a,\n zz?\n", 4, 4);
        text("a,\nb,\n use=z?\n", 9, 11);
        Check.says("1 a byte that can't come there (also one that no text has, as soon as it is looked at, ahead of the own"
            + " faults of a token that it ends; the text's end has its length as its place).");
        text("abcdefghijklm\u0001\n", 1, 13);
        text("a,\na\u0001\n", 1, 4);
        text("a|b|c|d|e\u0001\n", 1, 9);
        text("a,\n abcdef\u0001\n", 1, 10);
        text("a,\n zz\u0001\n", 1, 6);
        text("a,\n am,am\u0001\n", 1, 9);
        text("a,\n it#99999\u0001\n", 1, 12);
        text("a,\nb,\n use=z\u0001\n", 1, 12);
        text("a,\nb,\n use=a,use=a,use=a,use=a,use=a\u0001\n", 1, 36);
        text("a,\n el=" + "x".repeat(41) + "\u0001\n", 1, 48);
        text("a", 1, 1);
        text("a|", 1, 2);
        text("a,\n am", 1, 6);
        text("a,\n it#", 1, 7);
        text("a,\n it#1", 1, 8);
        text("a,\nb,\n use=", 1, 11);
        text("a,\nb,\n use=a", 1, 12);
        text("a,\n el=x", 1, 8);
        text("a,\n am@", 1, 7);
    }

    private static void thirteen() {
        Check.says("7 the thirteenth ENTRY of the house (at its first byte, as soon as that is come to; behind 1).");
        StringBuilder twelve = new StringBuilder();
        for (int i = 0; i < 12; i++) {
            twelve.append("n").append(i).append(",\n");
        }
        int length = twelve.length();
        right(twelve.toString());
        right(twelve + " am,\n#c\n\n it#1,\n");
        text(twelve + "x,\n", 7, length);
        text(twelve + "n0,\n", 7, length);
        text(twelve + "x", 7, length);
        text(twelve + "x\u0001", 7, length);
        text(twelve + "abcdefghijklm", 7, length);
        text(twelve + "X", 1, length);
        text(twelve + "|", 1, length);
        text(twelve + "\u0001", 1, length);
        text(twelve + " am,\n am,\nx", 6, length + 6);
        TerminalHouse house = new TerminalHouse(4, 16, 1);
        Check.due("twelve", Check.describe(house, twelve.toString()), 12);
        Check.due("one more", Check.describe(house, "x,\n"), -1);
        Check.due("fault", house.fault(0), 7);
        Check.due("place", house.fault(1), 0);
        Check.due("no more", Check.describe(house, "#x,\n"), 12);
        Check.due("no fault", house.fault(0), 0);
        house.empty();
        Check.due("one", Check.describe(house, "x,\n"), 1);
    }

    private static void faultChangesNothing() {
        Check.says("A text with a fault changes nothing; else its ENTRIES come behind those that are there.");
        TerminalHouse house = new TerminalHouse(4, 16, 1);
        Check.due("two", Check.describe(house, "a,\n am,\n" + SCREEN + "b,\n it#3,\n"), 2);
        Check.use(house, "a");
        house.open(1, 1, 2, 3);
        Check.due("a fault at the end", Check.describe(house, "c,\n it#5,\n" + SCREEN + "d,\n use=c,\ne,\n el=%,\n"), -1);
        Check.due("fault", house.fault(0), 8);
        Check.due("entries", house.count(1), 2);
        Check.due("windows", house.count(4), 1);
        Check.due("a is in use", Check.ability(house, "am"), 1);
        Check.due("no c", Check.use(house, "c"), -1);
        Check.due("c is no NAME for a use", Check.describe(house, "f,\n use=c,\n"), -1);
        Check.due("fault", house.fault(0), 9);
        Check.due("c is free", Check.describe(house, "c|d,\n use=a, use=b,\n"), 3);
        Check.due("c", Check.use(house, "d"), 0);
        Check.due("c has what is told now", Check.ability(house, "it"), 3);
        Check.due("and a's", Check.ability(house, "am"), 1);
    }

    /** What an ENTRY told that is no more there, or never came, is not had by the next one in its place. */
    private static void nothingIsLeft() {
        String all = "am, xenl, msgr, it#8, bel=x, home=x, el=x, ri=x, dl=x,";
        String[] names = {"am", "xenl", "msgr", "it", "bel", "home", "el", "ri", "dl"};
        TerminalHouse house = new TerminalHouse(4, 16, 1);
        Check.due("one", Check.describe(house, "a|b|c|d,\n" + SCREEN + " " + all + "\n"), 1);
        house.empty();
        Check.due("a fault", Check.describe(house, "a|b|c|d,\n" + SCREEN + " " + all + "!\n"), -1);
        Check.due("one", Check.describe(house, "e,\n" + SCREEN), 1);
        for (String name : names) {
            Check.use(house, "e");
            Check.due("it has no " + name, Check.ability(house, name), name.equals("am") || name.equals("xenl") || name.equals("msgr") ? 0 : -1);
        }
        String[] gone = {"a", "b", "c", "d"};
        for (String name : gone) {
            Check.due("no " + name, Check.use(house, name), -1);
        }
        Check.due("b is free", Check.describe(house, "f|b,\n"), 2);
    }
}
