import java.util.NoSuchElementException;
import java.util.Random;

/** Whatever is called with whatever in whatever state: only octet throws, and only what it may. */
public final class NeverThrowsTest {
    private static final String[] TEXTS = {
        "t|u,\n am, xenl, cols#20, lines#6, it#8, bel=^G, clear=\\E[H\\E[J, home=\\E[H, cup=\\E[%i%p1%d;%p2%dH,\n"
            + " cud1=\\n, cub1=^H, cuf=\\E[%p1%dC, cr=\\r, ht=^I, ind=\\n, el=\\E[K, sgr0=\\E[m, bold=\\E[1m,\n",
        "v,\n cols#80, lines#24, clear=, cup=%p1%c%p2%c, cuf1=, rev=r, sgr0=,\n",
        "w,\n use=t, cols#4, lines#2, am@,\n", "x,\n ed=%?%p1%t%p2%d%e%p3%c%;,\n", "t", "u", "v", "w", "cup", "ed", "am",
        "\u001b[1;2H\u001b[6n\u001b#6\u001b[L\u001b[2;4r", "\n\n\n\n\n\u001bM\u001b[3g\t\t\u001b[?6h", "one\ttwo\u0007\n",
        "\u0013", "\u0011", "\u001b[999@\u001b[999P\u001b[999X\u001b[999L\u001b[999M\u001b[999A", "\u001b[?7l\u001b[4h"};

    private static final int MOST_CALLS_AT_ONCE = 30;
    private static int callsLeft;

    public static void main(String[] args) {
        int wrong = 0;
        for (int seed = 0; seed < 1000; seed++) {
            Random random = new Random(seed);
            TerminalHouse house = new TerminalHouse(any(random), any(random), any(random));
            callsLeft = 512;
            while (callsLeft >= MOST_CALLS_AT_ONCE) {
                int which = random.nextInt(46);
                try {
                    call(house, which, random);
                } catch (NoSuchElementException e) {
                    wrong += which == 2 ? 0 : 1;
                }
            }
        }
        Check.due("calls that threw", wrong, 0);
        Check.finish("NeverThrowsTest");
    }

    private static int any(Random random) {
        switch (random.nextInt(8)) {
            case 0: return random.nextInt();
            case 1: return Integer.MIN_VALUE + random.nextInt(2);
            case 2: return Integer.MAX_VALUE - random.nextInt(2);
            case 3: return random.nextInt(400) - 100;
            default: return random.nextInt(30) - 2;
        }
    }

    private static int window(Random random) {
        return random.nextInt(6) == 0 ? any(random) : random.nextInt(3);
    }

    private static void call(TerminalHouse h, int which, Random r) {
        callsLeft--;
        switch (which) {
            case 0: h.feed(any(r), any(r), any(r), any(r), any(r)); break;
            case 1: h.end(any(r)); break;
            case 2: h.octet(any(r)); break;
            case 3: h.describe(); break;
            case 4: h.fault(any(r)); break;
            case 5: h.use(); break;
            case 6: if (r.nextInt(10) == 0) { h.empty(); } break;
            case 7: h.ability(); break;
            case 8: h.expand(any(r), any(r), any(r), any(r)); break;
            case 9: h.open(any(r), any(r), any(r), any(r)); break;
            case 10: h.close(any(r)); break;
            case 11: h.at(window(r), any(r), any(r)); break;
            case 12: h.dress(window(r), any(r)); break;
            case 13: h.scrolls(window(r), r.nextBoolean()); break;
            case 14: h.say(window(r)); break;
            case 15: h.erase(window(r), any(r)); break;
            case 16: h.rows(window(r), any(r)); break;
            case 17: h.cells(window(r), any(r)); break;
            case 18: h.roll(window(r), any(r)); break;
            case 19: h.box(window(r)); break;
            case 20: h.look(window(r), any(r), any(r)); break;
            case 21: h.where(window(r), any(r)); break;
            case 22: h.show(window(r)); break;
            case 23: h.update(); break;
            case 24: h.redraw(); break;
            case 25: h.known(any(r), any(r)); break;
            case 26: h.wanted(any(r), any(r)); break;
            case 27: h.flags(any(r)); break;
            case 28: h.write(); break;
            case 29: h.read(any(r)); break;
            case 30: h.key(any(r), r.nextBoolean()); break;
            case 31: h.spoil(r.nextInt(3)); break;
            case 32: h.ticks(any(r)); break;
            case 33: h.screen(any(r), any(r)); break;
            case 34: h.width(any(r)); break;
            case 35: h.state(any(r)); break;
            case 36: h.count(any(r)); break;
            case 37: h.stop(any(r), any(r)); break;
            case 38: h.open(r.nextInt(3), r.nextInt(3), 1 + r.nextInt(4), 1 + r.nextInt(16)); break;
            case 39: h.key(r.nextInt(127), true); break;
            default: useText(h, TEXTS[r.nextInt(TEXTS.length)], r.nextInt(6)); break;
        }
    }

    private static void useText(TerminalHouse h, String text, int how) {
        callsLeft -= 7 + text.length() / 20;
        if (h.count(13) + text.length() > 2900) {
            h.end(0);
        }
        if (how < 5) {
            h.end(0);
        }
        Check.feed(h, text);
        switch (how) {
            case 0: h.write(); break;
            case 1: h.say(0); break;
            case 2: h.expand(1, 2, 3, 4); break;
            case 3: h.describe(); break;
            case 4: h.use(); break;
            default: break;
        }
        h.ticks(17);
    }
}
