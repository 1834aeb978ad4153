/** Promises 23 waits, 24 order, 25 programme, 26 price. */
public final class OrdersTest {
    public static void main(String[] args) {
        Check check = new Check("OrdersTest");
        badOrders(check);
        leastWait(check);
        leastOrder(check);
        schoolWaits(check);
        badProgrammes(check);
        programmes(check);
        likeProgrammes(check);
        programmesThatFit(check);
        prices(check);
        check.finish();
    }

    private static void badOrders(Check check) {
        OrchestraYear x = new OrchestraYear();
        x.service(0, 0, 0, 1);
        check.due("waits(1)", x.waits(1), OrchestraYear.BAD);
        check.due("waits(-1)", x.waits(-1), OrchestraYear.BAD);
        check.due("order(1, 0)", x.order(1, 0), OrchestraYear.BAD);
        check.due("order(-1, 0)", x.order(-1, 0), OrchestraYear.BAD);
        check.due("no works, no wait", x.waits(0), 0);
        check.due("no works, no order", x.order(0, 0), OrchestraYear.NONE);
        x.work(1, 1, 1);
        x.call(0, 0);
        check.due("order(0, 0)", x.order(0, 0), 0);
        check.due("order(0, 1)", x.order(0, 1), OrchestraYear.NONE);
        check.due("order(0, -1)", x.order(0, -1), OrchestraYear.NONE);
    }

    private static void order(Check check, OrchestraYear x, int wait, int... want) {
        for (int i = 0; i < want.length; i++) {
            check.due("order " + i, x.order(0, i), want[i]);
        }
        check.due("order behind", x.order(0, want.length), OrchestraYear.NONE);
        check.due("waits", x.waits(0), wait);
    }

    /** A year with a service of works, told as minutes and needs. */
    private static OrchestraYear with(int kind, int... told) {
        OrchestraYear x = new OrchestraYear();
        x.service(kind, 0, 0, 1);
        for (int i = 0; i < told.length; i += 2) {
            x.work(told[i], 0, told[i + 1]);
        }
        for (int i = told.length / 2 - 1; i >= 0; i--) {
            x.call(0, i);
        }
        return x;
    }

    private static void leastWait(Check check) {
        // three instruments, each pair of works shares one: one of them must wait through the middle work
        order(check, with(0, 10, 1 + 4, 20, 4 + 16, 30, 1 + 16), 10, 1, 0, 2);
        // the wait counts for the need of the service, not of a work
        order(check, with(0, 10, 3 + 4, 20, 4 + 16, 30, 1 + 32), 20, 1, 0, 2);
        // work 0 needs what each of the others does: one of them stands two away from it, behind the shortest
        order(check, with(0, 30, 1 + 4 + 16, 5, 1, 6, 4, 7, 16), 5, 2, 0, 1, 3);
    }

    private static void leastOrder(Check check) {
        order(check, with(0, 10, 1, 10, 4, 10, 16, 10, 64, 10, 256), 0, 0, 1, 2, 3, 4);
        order(check, with(0, 10, 0, 10, 1, 10, 0, 10, 1, 10, 0), 0, 0, 1, 3, 2, 4);
        order(check, with(0, 10, 1, 20, 4, 5, 1, 7, 5), 0, 0, 2, 3, 1);
        OrchestraYear x = with(0, 10, 0, 10, 0, 10, 0);
        x.service(0, 0, 0, 1);
        x.call(1, 2);
        check.due("of one service", x.order(0, 0), 0);
        check.due("then of the other", x.order(1, 0), 2);
        check.due("then of the first again", x.order(0, 2), 2);
    }

    private static void schoolWaits(Check check) {
        order(check, with(0, 10, 2 + 8, 20, 8 + 32, 30, 2 + 32), 20, 1, 0, 2);
        order(check, with(4, 10, 2 + 8, 20, 8 + 32, 30, 2 + 32), 10, 1, 0, 2);
    }

    private static void badProgrammes(Check check) {
        OrchestraYear x = new OrchestraYear();
        check.due("day -1", x.programme(-1, 0, 0), OrchestraYear.BAD);
        check.due("day 401", x.programme(401, 0, 0), OrchestraYear.BAD);
        check.due("no works", x.programme(400, 0, 0), 0);
        check.due("no works", x.programme(0, 1, 100), OrchestraYear.NONE);
        check.due("low above high", x.programme(0, 0, -1), OrchestraYear.NONE);
        check.due("any low and high", x.programme(0, Integer.MIN_VALUE, Integer.MAX_VALUE), 0);
        check.due("none so long", x.programme(0, Integer.MAX_VALUE, Integer.MAX_VALUE), OrchestraYear.NONE);
        check.due("none so short", x.programme(0, Integer.MIN_VALUE, Integer.MIN_VALUE), OrchestraYear.NONE);
    }

    private static void programmes(Check check) {
        OrchestraYear x = new OrchestraYear();
        x.work(10, 5, 0);
        x.work(20, 9, 0);
        x.work(30, 15, 0);
        check.due("30 minutes", x.programme(0, 30, 30), 3);
        check.due("10 .. 30 minutes", x.programme(0, 10, 30), 1);
        check.due("11 .. 30 minutes", x.programme(0, 11, 30), 2);
        check.due("all", x.programme(0, 60, 60), 7);
        check.due("more than all", x.programme(0, 61, 1000), OrchestraYear.NONE);
        check.due("between", x.programme(0, 31, 39), OrchestraYear.NONE);
        check.due("nothing is cheaper", x.programme(0, -5, 60), 0);
        OrchestraYear y = new OrchestraYear();
        for (int i = 0; i < 12; i++) {
            y.work(90, 1000, 0);
        }
        check.due("all twelve", y.programme(0, 1080, 1080), 4095);
        check.due("eleven", y.programme(0, 990, 990), 2047);
    }

    private static void likeProgrammes(Check check) {
        OrchestraYear x = new OrchestraYear();
        x.work(10, 5, 0);
        x.work(10, 5, 0);
        x.work(20, 10, 0);
        check.due("the least work", x.programme(0, 10, 10), 1);
        check.due("0 is in the one", x.programme(0, 20, 20), 3);
        x.work(7, 0, 0);
        check.due("a work for nothing rather than none", x.programme(0, 0, 7), 8);
        check.due("and with others", x.programme(0, 10, 17), 9);
        OrchestraYear y = new OrchestraYear();
        y.work(10, 8, 0);
        y.work(20, 5, 0);
        y.work(10, 4, 0);
        y.work(10, 1, 0);
        check.due("1 ahead of 2 and 3", y.programme(0, 20, 20), 2);
        y.work(10, 0, 0);
        check.due("4 is cheaper with 3", y.programme(0, 20, 20), 8 + 16);
    }

    private static void programmesThatFit(Check check) {
        OrchestraYear x = new OrchestraYear();
        x.work(10, 5, 2);
        x.work(10, 9, 1 + 4);
        check.due("no players", x.programme(0, 10, 20), OrchestraYear.NONE);
        x.player(0, 2, 1);
        check.due("a double does not count", x.programme(0, 10, 20), OrchestraYear.NONE);
        x.player(1, 1, 1);
        check.due("one of each", x.programme(0, 10, 20), 2);
        x.player(0, 0, 1);
        check.due("two of the first", x.programme(0, 10, 20), 1);
        check.due("the greatest need, not the sum", x.programme(0, 20, 20), 3);
        x.leave(2, 7, 8);
        check.due("a leave", x.programme(8, 10, 20), 2);
        check.due("not then", x.programme(9, 10, 20), 1);
        x.score(0, 1, 3, 4);
        check.due("hired then", x.programme(4, 10, 20), 1);
        check.due("not hired then", x.programme(5, 10, 20), 2);
        x.score(1, 2, 0, 0);
        check.due("lost", x.programme(5, 10, 20), OrchestraYear.NONE);
    }

    private static void prices(Check check) {
        OrchestraYear x = new OrchestraYear();
        check.due("of none", x.price(0), 0);
        check.due("others than there are", x.price(1), OrchestraYear.BAD);
        x.work(1, 100, 0);
        x.work(1, 20, 0);
        x.work(1, 3, 0);
        check.due("price(0)", x.price(0), 0);
        check.due("price(5)", x.price(5), 103);
        check.due("price(7)", x.price(7), 123);
        check.due("price(8)", x.price(8), OrchestraYear.BAD);
        check.due("price(9)", x.price(9), OrchestraYear.BAD);
        check.due("price(-1)", x.price(-1), OrchestraYear.BAD);
        check.due("price(MIN)", x.price(Integer.MIN_VALUE), OrchestraYear.BAD);
        x.score(0, 2, 0, 0);
        check.due("a lost score has its price", x.price(1), 100);
    }
}
