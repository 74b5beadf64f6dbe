/** Promise 38: count, beside what the other tests look at by it. */
public final class CountsTest {
    public static void main(String[] args) {
        TerminalHouse house = new TerminalHouse(6, 20, 1);
        Check.feed(house, "abc");
        Check.due("13, the tape", house.count(13), 3);
        house.end(0);
        Check.describe(house, "a,\n cols#20, lines#6, clear=^L, cup=c%p1%d%p2%d,\nb,\n use=a, cols#10,\n");
        Check.due("1, entries", house.count(1), 2);
        Check.due("2 without a type", house.count(2), 0);
        Check.due("14 without a type", house.count(14), 0);
        Check.due("15 without a type", house.count(15), -1);
        Check.use(house, "b");
        Check.due("2, L", house.count(2), 6);
        Check.due("3, W", house.count(3), 10);
        house.open(0, 0, 2, 2);
        house.open(0, 0, 2, 2);
        house.close(0);
        Check.due("4, windows", house.count(4), 1);
        house.at(1, 1, 1);
        house.show(1);
        Check.due("update", house.update(), 1 + 3);
        Check.due("5, queue", house.count(5), 4);
        Check.due("14, on", house.count(14), 0);
        Check.due("15, row", house.count(15), 1);
        Check.due("16, column", house.count(16), 1);
        Check.due("10, updates do not count", house.count(10), 0);
        house.ticks(9);
        Check.due("0, time", house.count(0), 9);
        Check.due("5, queue", house.count(5), 0);
        Check.due("11, sent to the terminal", house.count(11), 4);
        Check.due("12, sent to the program", house.count(12), 0);
        house.key('a', true);
        house.ticks(9);
        Check.due("12, sent to the program", house.count(12), 1);
        Check.due("7, edited", house.count(7), 1);
        Check.due("10, column", house.count(10), 1);
        Check.due("17, flags", house.count(17), 127);
        Check.due("6, stopped", house.count(6), 0);
        Check.due("8, ready", house.count(8), 0);
        Check.due("9, signals", house.count(9), 0);
        Check.due("18, lost", house.count(18), 0);
        house.empty();
        Check.due("1, entries", house.count(1), 0);
        Check.due("2, L", house.count(2), 0);
        Check.due("4, windows", house.count(4), 0);
        Check.due("14", house.count(14), 0);
        Check.due("15", house.count(15), -1);
        Check.due("16", house.count(16), -1);
        int[] wrong = {-1, 19, 20, Integer.MIN_VALUE, Integer.MAX_VALUE};
        for (int what : wrong) {
            Check.due("count " + what, house.count(what), -1);
        }
        Check.finish("CountsTest");
    }
}
