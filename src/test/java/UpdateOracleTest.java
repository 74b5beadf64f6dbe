import java.util.ArrayList;
import java.util.Arrays;
import java.util.HashMap;
import java.util.List;
import java.util.Map;
import java.util.Random;

/**
 * Promise 25 once more: TO UPDATE told a second time, as plainly as the document does it (ways are made as texts, and
 * the shortest is taken), and held against the class with many types and screens. The types' strings are letters, so
 * that the terminal shows what was sent to it.
 */
public final class UpdateOracleTest {
    private static final int LINES = 3;
    private static final int COLUMNS = 9;
    private static final String[] DRESS = {"bold", "smul", "blink", "rev"};

    private final Map<String, String> strings = new HashMap<>();
    private boolean am;
    private boolean xenl;
    private boolean msgr;
    private int it = -1;
    private final int[][] known = new int[LINES][COLUMNS];
    private boolean isPlaced;
    private int row;
    private int column;
    private int on;
    private boolean isStrange = true;
    private boolean isBellWanted;
    private StringBuilder out = new StringBuilder();

    public static void main(String[] args) {
        Check.says("TO UPDATE makes bytes, in this order");
        for (int seed = 0; seed < 1500; seed++) {
            compare(new Random(seed));
        }
        Check.finish("UpdateOracleTest");
    }

    private static void compare(Random random) {
        UpdateOracleTest oracle = new UpdateOracleTest();
        String fields = oracle.choose(random);
        TerminalHouse house = new TerminalHouse(24, 80, 1);
        house.flags(0);
        Check.due("describe " + fields, Check.describe(house, "t,\n cols#" + COLUMNS + ", lines#" + LINES + "," + fields + "\n"), 1);
        Check.due("use", Check.use(house, "t"), 0);
        house.open(0, 0, LINES, COLUMNS);
        house.scrolls(0, random.nextBoolean());
        int shown = 0;
        for (int round = 0; round < 4 && shown < 180; round++) {
            for (int i = random.nextInt(4); i >= 0; i--) {
                oracle.isBellWanted |= change(house, random);
            }
            house.show(0);
            int[][] wanted = new int[LINES][COLUMNS];
            for (int y = 0; y < LINES; y++) {
                for (int x = 0; x < COLUMNS; x++) {
                    wanted[y][x] = house.wanted(y, x);
                }
            }
            if (round > 0 && random.nextInt(5) == 0) {
                house.redraw();
                oracle.isStrange = true;
            }
            String due = oracle.update(wanted, house.where(0, 4), house.where(0, 5));
            int bytes = house.update();
            Check.due("bytes with" + fields, bytes, due.length());
            Check.rest(house);
            StringBuilder sent = new StringBuilder();
            for (int i = 0; i < Math.min(bytes, 100); i++) {
                sent.append((char) (house.screen((shown + i) / 80, (shown + i) % 80) & 255));
            }
            shown += bytes;
            Check.due("sent with" + fields, sent.toString(), due.substring(0, Math.min(due.length(), 100)));
        }
        for (int y = 0; y < LINES; y++) {
            for (int x = 0; x < COLUMNS; x++) {
                Check.due("known", house.known(y, x), oracle.known[y][x]);
            }
        }
        Check.due("row", house.count(15), oracle.row);
        Check.due("column", house.count(16), oracle.column);
    }

    private static boolean change(TerminalHouse house, Random random) {
        switch (random.nextInt(8)) {
            case 0: house.roll(0, 1 + random.nextInt(2)); return false;
            case 1: house.erase(0, 1 + random.nextInt(2)); return false;
            case 2: house.at(0, random.nextInt(LINES), random.nextInt(COLUMNS)); return false;
            case 3:
                house.dress(0, random.nextInt(3) == 0 ? random.nextInt(16) : random.nextInt(2));
                Check.say(house, 0, "AB");
                return false;
            case 4: Check.say(house, 0, "\u0007"); return true;
            case 5: house.at(0, random.nextInt(LINES), COLUMNS - 1 - random.nextInt(2)); break;
            default: break;
        }
        Check.say(house, 0, "one two  three\nfour".substring(random.nextInt(14)));
        return false;
    }

    /** Chooses what the type has: the FIELDS of its text. */
    private String choose(Random random) {
        StringBuilder fields = new StringBuilder();
        am = random.nextBoolean();
        xenl = random.nextBoolean();
        msgr = random.nextBoolean();
        fields.append(am ? " am," : "").append(xenl ? " xenl," : "").append(msgr ? " msgr," : "");
        if (random.nextInt(3) > 0) {
            it = random.nextInt(6);
            fields.append(" it#").append(it).append(',');
        }
        strings.put("clear", "L".repeat(random.nextInt(2)));
        strings.put("cup", "C".repeat(random.nextInt(5)) + (random.nextInt(4) == 0 ? "" : "%p1%d%p2%d"));
        String[] plain = {"bel", "home", "cuu1", "cud1", "cub1", "cuf1", "cr", "ht", "ind", "el", "sgr0", "bold", "smul", "blink",
            "rev", "is"};
        for (int i = 0; i < plain.length; i++) {
            if (random.nextInt(3) > 0) {
                strings.put(plain[i], String.valueOf((char) ('a' + i)).repeat(random.nextInt(4)));
            }
        }
        String[] numbered = {"cuu", "cud", "cub", "cuf", "hpa", "vpa", "csr"};
        for (int i = 0; i < numbered.length; i++) {
            if (random.nextInt(3) == 0) {
                strings.put(numbered[i], String.valueOf((char) ('P' + i)).repeat(random.nextInt(3)) + (random.nextBoolean() ? "%p1%d" : ""));
            }
        }
        for (Map.Entry<String, String> e : strings.entrySet()) {
            fields.append(' ').append(e.getKey()).append('=').append(e.getValue()).append(',');
        }
        return fields.toString();
    }

    private String put(String ability, int p, int q) {
        String string = strings.get(ability);
        return string == null ? null : string.replace("%p1%d", String.valueOf(p)).replace("%p2%d", String.valueOf(q));
    }

    private void send(String ability, int p, int q) {
        String bytes = put(ability, p, q);
        out.append(bytes == null ? "" : bytes);
    }

    private String update(int[][] told, int v, int u) {
        out = new StringBuilder();
        int offered = 0;
        for (int i = 0; i < 4; i++) {
            offered |= strings.containsKey(DRESS[i]) && strings.containsKey("sgr0") ? 1 << i : 0;
        }
        int[][] wanted = new int[LINES][COLUMNS];
        for (int y = 0; y < LINES; y++) {
            for (int x = 0; x < COLUMNS; x++) {
                wanted[y][x] = told[y][x] % 256 + 256 * (told[y][x] / 256 & offered);
            }
        }
        if (isBellWanted) {
            send("bel", 0, 0);
            isBellWanted = false;
        }
        if (isStrange) {
            send("is", 0, 0);
            send("sgr0", 0, 0);
            send("csr", 0, LINES - 1);
            send("clear", 0, 0);
            for (int[] cells : known) {
                Arrays.fill(cells, 32);
            }
            isPlaced = true;
            row = 0;
            column = 0;
            on = 0;
            isStrange = false;
        }
        roll(wanted);
        for (int y = 0; y < LINES; y++) {
            paint(y, wanted[y]);
        }
        dress(0);
        move(v, u);
        return out.toString();
    }

    private boolean unlike(int y, int x, int[] wanted, int[] there) {
        boolean isLeftAlone = am && !xenl && y == LINES - 1 && x == COLUMNS - 1;
        return !isLeftAlone && wanted[x] != there[x];
    }

    private boolean rowUnlike(int y, int[] wanted, int[] there) {
        for (int x = 0; x < COLUMNS; x++) {
            if (unlike(y, x, wanted, there)) {
                return true;
            }
        }
        return false;
    }

    private int[][] movedUp(int k) {
        int[][] moved = new int[LINES][COLUMNS];
        for (int y = 0; y < LINES; y++) {
            if (y + k < LINES) {
                moved[y] = known[y + k].clone();
            } else {
                Arrays.fill(moved[y], 32);
            }
        }
        return moved;
    }

    private void roll(int[][] wanted) {
        int best = 0;
        int fewest = LINES + 1;
        for (int k = 0; k < LINES; k++) {
            int[][] moved = movedUp(k);
            int many = 0;
            for (int y = 0; y < LINES; y++) {
                many += rowUnlike(y, wanted[y], moved[y]) ? 1 : 0;
            }
            if (many < fewest) {
                fewest = many;
                best = k;
            }
        }
        if (strings.containsKey("ind") && best != 0) {
            move(LINES - 1, 0);
            for (int i = 0; i < best; i++) {
                send("ind", 0, 0);
            }
            int[][] moved = movedUp(best);
            for (int y = 0; y < LINES; y++) {
                known[y] = moved[y];
            }
        }
    }

    private void paint(int y, int[] wanted) {
        if (!rowUnlike(y, wanted, known[y])) {
            return;
        }
        int a = -1;
        int b = -1;
        int z = 0;
        for (int x = 0; x < COLUMNS; x++) {
            if (unlike(y, x, wanted, known[y])) {
                a = a < 0 ? x : a;
                b = x;
            }
            z = wanted[x] != 32 ? x + 1 : z;
        }
        int t = Math.max(a, z);
        int end = strings.containsKey("el") && b + 1 - t > put("el", 0, 0).length() ? t : b + 1;
        for (int x = a; x < end; x++) {
            if (unlike(y, x, wanted, known[y])) {
                move(y, x);
                dress(wanted[x] / 256);
                out.append((char) (wanted[x] % 256));
                known[y][x] = wanted[x];
                advance(y, x);
            }
        }
        if (end == t && t != b + 1) {
            move(y, t);
            dress(0);
            send("el", 0, 0);
            Arrays.fill(known[y], t, COLUMNS, 32);
        }
    }

    private void advance(int y, int x) {
        if (x < COLUMNS - 1) {
            column = x + 1;
        } else if (am && (xenl || y == LINES - 1)) {
            isPlaced = false;
        } else if (am) {
            row = y + 1;
            column = 0;
        }
    }

    private void dress(int t) {
        if ((on & ~t) != 0) {
            send("sgr0", 0, 0);
            on = 0;
        }
        for (int i = 0; i < 4; i++) {
            if ((t >> i & 1) != 0 && (on >> i & 1) == 0) {
                send(DRESS[i], 0, 0);
            }
        }
        on = t;
    }

    private void move(int v, int u) {
        if (isPlaced && row == v && column == u) {
            return;
        }
        if (on != 0 && !msgr) {
            send("sgr0", 0, 0);
            on = 0;
        }
        List<String> ways = new ArrayList<>();
        ways.add(put("cup", v, u));
        ways.add(isPlaced && row == v ? put("hpa", u, 0) : null);
        ways.add(isPlaced && column == u ? put("vpa", v, 0) : null);
        ways.add(isPlaced ? joined("", vertical(row, v), across(column, u, v)) : null);
        ways.add(isPlaced ? joined(put("cr", 0, 0), vertical(row, v), across(0, u, v)) : null);
        ways.add(joined(put("home", 0, 0), vertical(0, v), across(0, u, v)));
        out.append(shortest(ways));
        row = v;
        column = u;
        isPlaced = true;
    }

    private static String joined(String a, String b, String c) {
        return a == null || b == null || c == null ? null : a + b + c;
    }

    /** The first with the fewest bytes; null if all are none. */
    private static String shortest(List<String> ways) {
        String best = null;
        for (String way : ways) {
            if (way != null && (best == null || way.length() < best.length())) {
                best = way;
            }
        }
        return best;
    }

    private String times(String ability, int n) {
        String once = put(ability, 0, 0);
        return once == null ? null : once.repeat(n);
    }

    private String pair(String one, String many, int n) {
        return n == 0 ? "" : shortest(Arrays.asList(times(one, n), put(many, n, 0)));
    }

    private String vertical(int from, int to) {
        return to >= from ? pair("cud1", "cud", to - from) : pair("cuu1", "cuu", from - to);
    }

    private String across(int x, int u, int v) {
        if (u <= x) {
            return pair("cub1", "cub", x - u);
        }
        List<String> ways = new ArrayList<>();
        ways.add(times("cuf1", u - x));
        ways.add(put("cuf", u - x, 0));
        if (strings.containsKey("ht") && it > 0 && u / it * it > x) {
            int q = u / it * it;
            int tabs = 0;
            for (int m = x + 1; m <= q; m++) {
                tabs += m % it == 0 ? 1 : 0;
            }
            ways.add(joined(times("ht", tabs), pair("cuf1", "cuf", u - q), ""));
        }
        StringBuilder bytes = new StringBuilder();
        boolean isDressedSo = true;
        for (int i = x; i < u; i++) {
            isDressedSo &= known[v][i] / 256 == on;
            bytes.append((char) (known[v][i] % 256));
        }
        ways.add(isDressedSo ? bytes.toString() : null);
        return shortest(ways);
    }
}
