/** Block 3: WAIT, THE ORDER, THE PROGRAMME; promises 23 to 26. */
public final class PlanningTest {
    private static final int NONE = OrchestraYear.NONE;
    private static final int BAD = OrchestraYear.BAD;
    private static final int MIN = Integer.MIN_VALUE;
    private static final int MAX = Integer.MAX_VALUE;

    private final Check check;

    private PlanningTest(Check check) {
        this.check = check;
    }

    public static void main(String[] args) {
        Check check = new Check("PlanningTest");
        PlanningTest test = new PlanningTest(check);
        test.ofFewWorks();
        test.betweenFirstAndLast();
        test.timesTheNeed();
        test.fiveInACircle();
        test.allOrdersOfFour();
        test.theEmptyProgramme();
        test.lowAndHigh();
        test.longestProgramme();
        test.asManyPlayers();
        test.playersOnLeave();
        test.scoresOfTheDay();
        test.likePrices();
        test.allSmallProgrammes();
        test.pricesOfSets();
        check.finish();
    }

    /** A year in which service 0 has works of such minutes and needs, the last one called first. */
    private static OrchestraYear service(int kind, int[] minutes, int[] needs) {
        OrchestraYear x = new OrchestraYear();
        x.service(kind, 0, 0, 1);
        for (int i = 0; i < minutes.length; i++) {
            x.work(minutes[i], 0, needs[i]);
        }
        for (int i = minutes.length - 1; i >= 0; i--) {
            x.call(0, i);
        }
        return x;
    }

    private void order(String what, OrchestraYear x, int wait, int... want) {
        for (int i = -1; i <= 5; i++) {
            check.due(what + ": order " + i, x.order(0, i), i >= 0 && i < want.length ? want[i] : NONE);
        }
        check.due(what + ": waits", x.waits(0), wait);
    }

    /** Of none, one and two works nothing waits. */
    private void ofFewWorks() {
        order("none", service(0, new int[] {}, new int[] {}), 0);
        order("one", service(0, new int[] {90}, new int[] {255}), 0, 0);
        order("two", service(0, new int[] {90, 1}, new int[] {255, 3}), 0, 0, 1);
        order("two that need nothing", service(0, new int[] {90, 1}, new int[] {0, 0}), 0, 0, 1);
        OrchestraYear x = service(0, new int[] {1, 1, 1}, new int[] {0, 0, 0});
        x.service(0, 1, 0, 1);
        check.due("one without works behind one with", x.order(1, 0), NONE);
        check.due("its wait", x.waits(1), 0);
        check.due("the first one still", x.order(0, 2), 2);
    }

    /** "the MINUTES of all WORKS between the first and the last one that needs it, that do not". */
    private void betweenFirstAndLast() {
        // each two of three works share an instrument, so the shortest stands in the middle
        int[] ring = {1 + 4, 4 + 16, 16 + 1};
        order("first is shortest", service(0, new int[] {1, 2, 3}, ring), 1, 1, 0, 2);
        order("second is shortest", service(0, new int[] {2, 1, 3}, ring), 1, 0, 1, 2);
        order("last is shortest", service(0, new int[] {3, 2, 1}, ring), 1, 0, 2, 1);
        order("all alike", service(0, new int[] {90, 90, 90}, ring), 90, 0, 1, 2);
        order("one for all", service(0, new int[] {5, 6, 7, 8}, new int[] {1, 1, 1, 1}), 0, 0, 1, 2, 3);
        order("one that needs nothing goes ahead", service(0, new int[] {5, 6, 7}, new int[] {1, 0, 1}), 0, 0, 2, 1);
        order("it goes ahead", service(0, new int[] {5, 6, 7}, new int[] {0, 1, 1}), 0, 0, 1, 2);
    }

    /** "times the NEED of the SERVICE", which is the greatest one of its WORKS, of a SCHOOL one. */
    private void timesTheNeed() {
        for (int need = 1; need <= 3; need++) {
            int[] needs = {need + 4, 4 + 16, 16 + 1};
            int[] minutes = {25, 10, 90};
            // 1 in the middle costs 10 for each that needs instrument 0; once that is 30, 0 in the middle is better
            if (need < 3) {
                order("need " + need, service(0, minutes, needs), 10 * need, 0, 1, 2);
            } else {
                order("need " + need, service(0, minutes, needs), 25, 1, 0, 2);
            }
            order("a school", service(4, minutes, needs), 10, 0, 1, 2);
        }
    }

    /** Five works of which each shares an instrument with the next one, and the last with the first. */
    private void fiveInACircle() {
        int[] needs = {1 + 4, 4 + 16, 16 + 64, 64 + 256, 256 + 1};
        order("all alike", service(0, new int[] {10, 10, 10, 10, 10}, needs), 30, 0, 1, 2, 3, 4);
        order("as long as can be", service(0, new int[] {90, 90, 90, 90, 90}, needs), 270, 0, 1, 2, 3, 4);
        order("as short as can be", service(0, new int[] {1, 1, 1, 1, 1}, needs), 3, 0, 1, 2, 3, 4);
    }

    private static int waitOf(int[] order, int[] minutes, int[] needs) {
        int sum = 0;
        for (int instrument = 0; instrument < 3; instrument++) {
            int first = -1;
            int last = -1;
            int need = 0;
            for (int i = 0; i < order.length; i++) {
                int one = needs[order[i]] >> (2 * instrument) & 3;
                need = Math.max(need, one);
                first = one > 0 && first < 0 ? i : first;
                last = one > 0 ? i : last;
            }
            for (int i = first; i <= last && first >= 0; i++) {
                boolean needed = (needs[order[i]] >> (2 * instrument) & 3) > 0;
                sum += needed ? 0 : need * minutes[order[i]];
            }
        }
        return sum;
    }

    /** THE ORDER of four and of five works of all needs of three instruments, against all orders gone through. */
    private void allOrdersOfFour() {
        int[] minutes = {4, 3, 5, 2, 6};
        int[] sets = {0, 1, 8, 3 + 4, 16, 2 + 16, 4 + 32, 1 + 4 + 48};
        for (int row = 0; row < 8 * 8 * 8 * 8; row++) {
            int[] four = {sets[row % 8], sets[row / 8 % 8], sets[row / 64 % 8], sets[row / 512]};
            smallOrder(minutes, four);
            if (row % 7 == 0) {
                smallOrder(minutes, new int[] {four[0], four[1], four[2], four[3], sets[row % 5 + 3]});
            }
        }
    }

    private void smallOrder(int[] allMinutes, int[] needs) {
        int[] minutes = java.util.Arrays.copyOf(allMinutes, needs.length);
        int[] best = new int[needs.length + 1];
        best[0] = MAX;
        tryOrders(new int[needs.length], 0, minutes, needs, best);
        OrchestraYear x = service(0, minutes, needs);
        String what = "needs " + java.util.Arrays.toString(needs);
        check.due(what + ": waits", x.waits(0), best[0]);
        for (int i = 0; i < needs.length; i++) {
            check.due(what + ": order " + i, x.order(0, i), best[1 + i]);
        }
    }

    private static void tryOrders(int[] order, int size, int[] minutes, int[] needs, int[] best) {
        if (size == order.length) {
            int wait = waitOf(order, minutes, needs);
            if (wait < best[0]) {
                best[0] = wait;
                System.arraycopy(order, 0, best, 1, size);
            }
            return;
        }
        for (int work = 0; work < order.length; work++) {
            boolean free = true;
            for (int i = 0; i < size; i++) {
                free &= order[i] != work;
            }
            if (free) {
                order[size] = work;
                tryOrders(order, size + 1, minutes, needs, best);
            }
        }
    }

    /** A set of no works has 0 MINUTES and no price. */
    private void theEmptyProgramme() {
        OrchestraYear x = new OrchestraYear();
        check.due("no works", x.programme(0, 0, 0), 0);
        check.due("1 .. MAX", x.programme(0, 1, MAX), NONE);
        x.work(10, 1, 0);
        check.due("0 .. 0", x.programme(0, 0, 0), 0);
        check.due("0 .. 9", x.programme(0, 0, 9), 0);
        check.due("0 .. 10", x.programme(0, 0, 10), 0);
        check.due("-1 .. -1", x.programme(0, -1, -1), NONE);
        check.due("-1 .. 0", x.programme(0, -1, 0), 0);
        check.due("1 .. 0", x.programme(0, 1, 0), NONE);
        check.due("MIN .. MAX", x.programme(0, MIN, MAX), 0);
        x.score(0, 2, 0, 0);
        check.due("all are lost", x.programme(0, 0, 0), 0);
    }

    /** "with MINUTES low .. high together", both with them; "NONE: there is none". */
    private void lowAndHigh() {
        OrchestraYear x = new OrchestraYear();
        x.work(10, 1, 0);
        x.work(25, 2, 0);
        int[][] asked = {{1, 9, NONE}, {1, 10, 1}, {10, 10, 1}, {10, 11, 1}, {11, 24, NONE}, {11, 25, 2}, {25, 25, 2},
            {26, 34, NONE}, {26, 35, 3}, {35, 35, 3}, {35, MAX, 3}, {36, MAX, NONE}, {25, 24, NONE}, {MAX, MIN, NONE},
            {MAX, MAX, NONE}, {MIN, MIN, NONE}, {10, 25, 1}, {11, 35, 2}};
        for (int[] a : asked) {
            check.due("programme " + a[0] + " .. " + a[1], x.programme(0, a[0], a[1]), a[2]);
        }
    }

    private void longestProgramme() {
        OrchestraYear x = new OrchestraYear();
        for (int i = 0; i < 12; i++) {
            x.work(90, 1000, 0);
            check.due("all of them", x.programme(0, 90 * (i + 1), 90 * (i + 1)), (2 << i) - 1);
            check.due("or more", x.programme(0, 90 * (i + 1), MAX), (2 << i) - 1);
            check.due("none longer", x.programme(0, 90 * (i + 1) + 1, MAX), NONE);
            check.due("the least one", x.programme(0, 1, MAX), 1);
        }
        check.due("none of a minute less", x.programme(0, 991, 1079), NONE);
    }

    /** "as many PLAYERS with that POST ... as the greatest NEED of them": one too few, just as many, one more. */
    private void asManyPlayers() {
        for (int instrument = 0; instrument < 6; instrument++) {
            for (int need = 0; need <= 3; need++) {
                OrchestraYear x = new OrchestraYear();
                x.work(10, 5, need << (2 * instrument));
                x.player((instrument + 1) % 6, 63, 1);
                for (int players = 0; players <= need + 1; players++) {
                    String what = "need " + need + " of " + instrument + ", " + players + " players";
                    check.due(what, x.programme(0, 10, 10), players >= need ? 1 : NONE);
                    x.player(instrument, 0, 1);
                }
            }
        }
        OrchestraYear y = new OrchestraYear();
        y.player(0, 0, 1);
        y.player(0, 0, 1);
        for (int need = 1; need <= 3; need++) {
            y.work(10, need, need);
        }
        check.due("1 and 2 of one instrument need two", y.programme(0, 20, 20), 3);
        check.due("with 3 there are too few", y.programme(0, 30, 30), NONE);
        y.player(0, 0, 1);
        check.due("now there are three", y.programme(0, 30, 30), 7);
    }

    /** "without a LEAVE on the DAY". */
    private void playersOnLeave() {
        OrchestraYear x = new OrchestraYear();
        x.work(10, 5, 1);
        x.player(0, 0, 1);
        x.leave(0, 0, 0);
        x.leave(0, 10, 12);
        x.leave(0, 400, 400);
        int[] away = {0, 10, 11, 12, 400};
        int[] here = {1, 9, 13, 399};
        for (int day : away) {
            check.due("away on " + day, x.programme(day, 10, 10), NONE);
            check.due("nothing on " + day, x.programme(day, 0, 10), 0);
        }
        for (int day : here) {
            check.due("here on " + day, x.programme(day, 10, 10), 1);
        }
    }

    /** "WORKS (bits) that can be PLAYED then". */
    private void scoresOfTheDay() {
        OrchestraYear x = new OrchestraYear();
        x.work(10, 1, 0);
        x.work(10, 2, 0);
        x.work(10, 3, 0);
        x.score(0, 1, 100, 200);
        x.score(1, 1, 200, 300);
        int[][] want = {{0, 4}, {99, 4}, {100, 1}, {200, 1}, {201, 2}, {300, 2}, {301, 4}, {400, 4}};
        for (int[] w : want) {
            check.due("the cheapest of day " + w[0], x.programme(w[0], 10, 10), w[1]);
        }
        check.due("all three", x.programme(200, 30, 30), 7);
        check.due("not then", x.programme(199, 30, 30), NONE);
        check.due("not then", x.programme(201, 30, 30), NONE);
        x.score(2, 2, 0, 0);
        check.due("lost", x.programme(0, 10, 10), NONE);
        x.score(2, 0, 0, 0);
        check.due("ours again", x.programme(0, 10, 10), 4);
    }

    /** "of like ones the one that has the least WORK in which two differ". */
    private void likePrices() {
        OrchestraYear x = new OrchestraYear();
        for (int i = 0; i < 12; i++) {
            x.work(1, 0, 0);
        }
        check.due("all for nothing", x.programme(0, 0, 12), 4095);
        check.due("as many as can be", x.programme(0, 0, 3), 7);
        check.due("just one", x.programme(0, 1, 1), 1);
        OrchestraYear y = new OrchestraYear();
        y.work(40, 4, 0);
        y.work(10, 1, 0);
        y.work(20, 2, 0);
        y.work(30, 3, 0);
        check.due("0 ahead of 1 and 3", y.programme(0, 40, 40), 1);
        check.due("1 and 2 ahead of 3", y.programme(0, 30, 30), 6);
        check.due("0 and 1 ahead of 2 and 3", y.programme(0, 50, 50), 3);
        y.score(0, 2, 0, 0);
        check.due("1 and 3, without 0", y.programme(0, 40, 40), 10);
        check.due("2 and 3, without 0", y.programme(0, 50, 50), 12);
    }

    /** THE PROGRAMME of four works of all small minutes and prices, against all sets gone through. */
    private void allSmallProgrammes() {
        for (int row = 0; row < 6 * 6 * 6 * 6; row++) {
            OrchestraYear x = new OrchestraYear();
            int[] minutes = new int[4];
            int[] prices = new int[4];
            for (int i = 0, left = row; i < 4; i++, left /= 6) {
                minutes[i] = 1 + left % 2;
                prices[i] = left % 6 / 2;
                x.work(minutes[i], prices[i], 0);
            }
            for (int low = 0; low <= 9; low++) {
                for (int high = low; high <= 9; high++) {
                    check.due("row " + row + ", " + low + " .. " + high, x.programme(0, low, high),
                        cheapest(minutes, prices, low, high));
                }
            }
        }
    }

    private static int cheapest(int[] minutes, int[] prices, int low, int high) {
        int best = NONE;
        int least = MAX;
        for (int set = 0; set < 16; set++) {
            int time = 0;
            int price = 0;
            for (int i = 0; i < 4; i++) {
                time += (set >> i & 1) * minutes[i];
                price += (set >> i & 1) * prices[i];
            }
            int differ = best ^ set;
            boolean ahead = price < least || price == least && (set & Integer.lowestOneBit(differ)) != 0;
            if (time >= low && time <= high && ahead) {
                best = set;
                least = price;
            }
        }
        return best;
    }

    /** Promise 26: "BAD: others than there are". */
    private void pricesOfSets() {
        OrchestraYear x = new OrchestraYear();
        int sum = 0;
        for (int i = 0; i < 12; i++) {
            check.due("others than there are", x.price(1 << i), BAD);
            check.due("with those that are", x.price((2 << i) - 1), BAD);
            x.work(1, 1000 - i, 0);
            sum += 1000 - i;
            check.due("that one", x.price(1 << i), 1000 - i);
            check.due("all of them", x.price((2 << i) - 1), sum);
            check.due("none", x.price(0), 0);
        }
        for (int bit = 12; bit < 32; bit++) {
            check.due("bit " + bit, x.price(1 << bit), BAD);
            check.due("bit " + bit + " and all", x.price(1 << bit | 4095), BAD);
        }
        OrchestraYear y = new OrchestraYear();
        for (int i = 0; i < 12; i++) {
            y.work(1, 1000, 0);
        }
        check.due("the greatest price", y.price(4095), 12000);
    }
}
