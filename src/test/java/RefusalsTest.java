/**
 * Refusals are the first that fits of BAD, STATE, FULL, and they change nothing; what only asks changes nothing
 * either. Tried on an object with some room in all, and on one that is full of all.
 */
public final class RefusalsTest {
    private static final int BAD = OrchestraYear.BAD;
    private static final int STATE = OrchestraYear.STATE;
    private static final int FULL = OrchestraYear.FULL;
    private static final long NO = OrchestraYear.NO;

    /** Services of both objects; PLAIN has no works. */
    private static final int SEATED = 0;
    private static final int OF_12_CHAIRS = 1;
    private static final int OF_FIVE = 2;
    private static final int SEATED_OF_FIVE = 3;
    private static final int PLAIN = 4;

    /** Works of both: 0 .. 4 need one player each, of the instruments 0 .. 4. */
    private static final int OF_12 = 5;
    private static final int ONE_MORE = 6;

    public static void main(String[] args) {
        Check check = new Check("RefusalsTest");
        Twins roomy = new Twins(check, RefusalsTest::roomy);
        Twins full = new Twins(check, RefusalsTest::full);
        for (Twins twins : new Twins[] {roomy, full}) {
            worksBad(twins);
            playersBad(twins);
            servicesBad(twins);
            callsRefused(twins);
            textsBad(twins);
            chairsBad(twins);
            ordersBad(twins);
            putsBad(twins);
            forgesBad(twins);
        }
        roomAhead(roomy);
        roomGone(full);
        asked(roomy, "roomy", roomy());
        asked(full, "full", full());
        check.finish();
    }

    private static OrchestraYear roomy() {
        OrchestraYear x = new OrchestraYear();
        for (int i = 0; i < 5; i++) {
            x.work(10 + i, 20 - i, 1 << (2 * i));
        }
        x.work(9, 3, 255);
        x.work(8, 2, 1024);
        x.score(1, 1, 40, 240);
        x.score(2, 2, 0, 0);
        x.player(0, 2, 1);
        x.player(1, 1, 2);
        x.player(5, 63, 3);
        x.leave(1, 100, 120);
        for (int i = 0; i < 5; i++) {
            x.service(i, 3 + i, 10, 1 + i);
        }
        x.call(SEATED, 0);
        x.call(SEATED, 1);
        x.call(OF_12_CHAIRS, OF_12);
        for (int work = 0; work < 5; work++) {
            x.call(OF_FIVE, work);
            x.call(SEATED_OF_FIVE, work);
        }
        Check.text(x, "bar desk=2;count 2;pay 3*long;");
        x.force(1, 5);
        Check.feed(x, "count 7;pay week;");
        x.seat(SEATED);
        x.seat(SEATED_OF_FIVE);
        fillTrays(x);
        return x;
    }

    private static OrchestraYear full() {
        OrchestraYear x = roomy();
        for (int i = 7; i < 12; i++) {
            x.work(20 + i, i, 0);
        }
        for (int i = 3; i < 10; i++) {
            x.player(i % 6, i, i);
        }
        for (int i = 1; i < 6; i++) {
            x.leave(1, 300 + i, 310 + i);
        }
        for (int i = 5; i < 40; i++) {
            x.service(i % 6, i, i % 24, 1);
        }
        x.text();
        for (int i = 3; i < 10; i++) {
            Check.text(x, "count 1;pay 2;");
        }
        Check.feed(x, "count 5;pay 6;" + " ".repeat(286));
        fillTrays(x);
        return x;
    }

    /** Tray 0 holds nothing; STATUS is 11 then, so that a change of it is seen. */
    private static void fillTrays(OrchestraYear x) {
        x.put(1, 1, SEATED);
        x.put(2, 2, 5);
        x.put(3, 3, 0);
        x.put(4, 4, 110);
        x.put(5, 1, PLAIN);
        x.forge(5, 1, 0);
    }

    private static void worksBad(Twins twins) {
        int[][] works = {{0, 0, 0}, {91, 0, 0}, {1, -1, 0}, {1, 1001, 0}, {1, 0, -1}, {1, 0, 4096}};
        for (int[] w : works) {
            twins.unchanged("work", x -> x.work(w[0], w[1], w[2]), BAD);
        }
        int[][] scores = {{-1, 0, 0, 0}, {12, 0, 0, 0}, {0, -1, 0, 0}, {0, 3, 0, 0}, {0, 1, -1, 5}, {0, 1, 5, 401},
            {0, 1, 6, 5}, {1, 1, 240, 40}, {2, 1, 401, 401}};
        for (int[] s : scores) {
            twins.unchanged("score", x -> x.score(s[0], s[1], s[2], s[3]), BAD);
        }
        twins.unchanged("workTold", x -> x.workTold(12, 0), BAD);
        twins.unchanged("workTold", x -> x.workTold(0, 6), BAD);
        twins.unchanged("played", x -> x.played(12, 0), BAD);
        twins.unchanged("played", x -> x.played(0, 401), BAD);
    }

    private static void playersBad(Twins twins) {
        int[][] players = {{-1, 0, 1}, {6, 0, 1}, {0, -1, 1}, {0, 64, 1}, {0, 0, 0}, {0, 0, 10}};
        for (int[] p : players) {
            twins.unchanged("player", x -> x.player(p[0], p[1], p[2]), BAD);
        }
        int[][] leaves = {{-1, 0, 0}, {10, 0, 0}, {0, -1, 0}, {0, 0, 401}, {0, 1, 0}, {1, 1, 0}, {1, 401, 401}};
        for (int[] l : leaves) {
            twins.unchanged("leave", x -> x.leave(l[0], l[1], l[2]), BAD);
        }
        twins.unchanged("playerTold", x -> x.playerTold(10, 0), BAD);
        twins.unchanged("playerTold", x -> x.playerTold(0, 5), BAD);
    }

    private static void servicesBad(Twins twins) {
        int[][] services = {{-1, 0, 0, 1}, {6, 0, 0, 1}, {0, -1, 0, 1}, {0, 401, 0, 1}, {0, 0, -1, 1}, {0, 0, 24, 1},
            {0, 0, 0, 0}, {0, 0, 0, 9}};
        for (int[] s : services) {
            twins.unchanged("service", x -> x.service(s[0], s[1], s[2], s[3]), BAD);
        }
        twins.unchanged("serviceTold", x -> x.serviceTold(40, 0), BAD);
        twins.unchanged("serviceTold", x -> x.serviceTold(0, -1), BAD);
        twins.unchanged("count", x -> x.count(7), BAD);
    }

    private static void callsRefused(Twins twins) {
        twins.unchanged("call, no service", x -> x.call(40, 0), BAD);
        twins.unchanged("call, no work", x -> x.call(PLAIN, 12), BAD);
        twins.unchanged("call, no work, and it is seated", x -> x.call(SEATED, -1), BAD);
        twins.unchanged("call, no work, and it has five", x -> x.call(OF_FIVE, 12), BAD);
        twins.unchanged("call, no work, seated with five", x -> x.call(SEATED_OF_FIVE, 12), BAD);
        twins.unchanged("call, it is seated", x -> x.call(SEATED, 3), STATE);
        twins.unchanged("call, it is seated and has it", x -> x.call(SEATED, 0), STATE);
        twins.unchanged("call, it has it", x -> x.call(OF_12_CHAIRS, OF_12), STATE);
        twins.unchanged("call, 13 chairs", x -> x.call(OF_12_CHAIRS, ONE_MORE), STATE);
        twins.unchanged("call, it has it and five", x -> x.call(OF_FIVE, 4), STATE);
        twins.unchanged("call, 13 chairs and five works", x -> x.call(OF_FIVE, OF_12), STATE);
        twins.unchanged("call, it is seated and has five", x -> x.call(SEATED_OF_FIVE, ONE_MORE), STATE);
        twins.unchanged("call, it has five", x -> x.call(OF_FIVE, ONE_MORE), FULL);
    }

    private static void textsBad(Twins twins) {
        twins.unchanged("feed(0)", x -> x.feed(0, 'c'), BAD);
        twins.unchanged("feed(9)", x -> x.feed(9, 'c'), BAD);
        twins.unchanged("force, no text", x -> x.force(10, 0), BAD);
        twins.unchanged("force, no text", x -> x.force(-1, 0), BAD);
        twins.unchanged("force, no day", x -> x.force(1, -1), BAD);
        twins.unchanged("force, no day", x -> x.force(0, 401), BAD);
        twins.unchanged("inForce", x -> x.inForce(401), BAD);
    }

    private static void chairsBad(Twins twins) {
        twins.unchanged("may", x -> x.may(40, 0, 0), BAD);
        twins.unchanged("may", x -> x.may(0, 10, 0), BAD);
        twins.unchanged("may", x -> x.may(0, 0, 6), BAD);
        twins.unchanged("worth", x -> x.worth(40, 0, 0, 0), NO);
        twins.unchanged("worth", x -> x.worth(PLAIN, 0, 0, 3), NO);
        twins.unchanged("gaps", x -> x.gaps(40), BAD);
        twins.unchanged("chair", x -> x.chair(40, 0, true), BAD);
        twins.unchanged("chair", x -> x.chair(SEATED, 2, true), BAD);
        twins.unchanged("chair", x -> x.chair(SEATED, 2, false), BAD);
        twins.unchanged("seat", x -> x.seat(40), BAD);
        twins.unchanged("seat", x -> x.seat(-1), BAD);
        twins.unchanged("rise", x -> x.rise(40), BAD);
        twins.unchanged("rise", x -> x.rise(-1), BAD);
        twins.unchanged("rise, it is not seated", x -> x.rise(OF_FIVE), STATE);
        twins.unchanged("due", x -> x.due(10, 0, 400, 0), NO);
        twins.unchanged("due", x -> x.due(0, 1, 0, 0), NO);
        twins.unchanged("due", x -> x.due(0, 0, 401, 0), NO);
        twins.unchanged("due", x -> x.due(0, 0, 400, 2), NO);
    }

    private static void ordersBad(Twins twins) {
        twins.unchanged("waits", x -> x.waits(40), BAD);
        twins.unchanged("order", x -> x.order(40, 0), BAD);
        twins.unchanged("programme", x -> x.programme(401, 0, 400), BAD);
        twins.unchanged("price", x -> x.price(4096), BAD);
        twins.unchanged("price", x -> x.price(-1), BAD);
    }

    private static void putsBad(Twins twins) {
        int[][] puts = {{-1, 0, 0}, {6, 0, 0}, {1, -1, 0}, {1, 5, 0}, {1, 1, -1}, {2, 1, 40}, {3, 2, -1}, {1, 2, 401},
            {2, 4, -1}, {3, 4, 401}};
        for (int[] p : puts) {
            twins.unchanged("put", x -> x.put(p[0], p[1], p[2]), -1, 1);
        }
    }

    /** Whatever the host does with a thing, the TRAY holds it still. */
    private static void forgesBad(Twins twins) {
        int[][] forges = {{-1, 0, 0, 1}, {6, 0, 0, 1}, {1, -1, 0, 1}, {1, 9, 0, 1}, {1, 0, 101, 1}, {1, 0, -101, 1},
            {0, 0, 0, 10}, {0, 1, 0, 10}, {0, 2, 0, 10}, {0, 3, 0, 10}, {0, 5, 0, 10}, {1, 8, 0, 10},
            {1, 0, 5, 11}, {2, 0, 0, 11}, {1, 1, 0, 11}, {4, 2, 0, 11}, {3, 3, 0, 11}, {2, 5, 0, 11},
            {2, 1, -1, 12}, {3, 2, 10, 12}, {4, 3, 10, 12}, {3, 5, 3, 12}, {3, 5, -1, 12},
            {1, 4, -1, 13}, {1, 6, 0, 14}, {3, 6, 0, 14}, {1, 7, 0, 15}};
        for (int[] f : forges) {
            String what = "forge(" + f[0] + ", " + f[1] + ", " + f[2] + ")";
            twins.unchanged(what, x -> x.forge(f[0], f[1], f[2]), -1, f[3]);
        }
        twins.unchanged("forge, a row", x -> x.forge(1, 4, 9), 9, 0);
        twins.unchanged("forge, a day", x -> x.forge(1, 0, 0), 3, 0);
        twins.unchanged("forge, nothing laid", x -> x.forge(0, 6, 0), 0, 0);
        twins.unchanged("forge, none copied", x -> x.forge(3, 5, 0), 0, 0);
    }

    /** Numbers just behind those that there are, where there is room for more. */
    private static void roomAhead(Twins twins) {
        twins.unchanged("score of the next work", x -> x.score(7, 0, 0, 0), BAD);
        twins.unchanged("leave of the next player", x -> x.leave(3, 0, 0), BAD);
        twins.unchanged("call to the next service", x -> x.call(5, 0), BAD);
        twins.unchanged("call of the next work", x -> x.call(PLAIN, 7), BAD);
        twins.unchanged("force of the next text", x -> x.force(2, 0), BAD);
        twins.unchanged("seat of the next service", x -> x.seat(5), BAD);
        twins.unchanged("rise of the next service", x -> x.rise(5), BAD);
        twins.unchanged("price with the next work", x -> x.price(1 << 7), BAD);
        twins.unchanged("put of the next service", x -> x.put(1, 1, 5), -1, 1);
    }

    private static void roomGone(Twins twins) {
        twins.unchanged("a 13th work", x -> x.work(1, 0, 0), FULL);
        twins.unchanged("an 11th player", x -> x.player(0, 0, 1), FULL);
        twins.unchanged("a 7th leave", x -> x.leave(1, 0, 400), FULL);
        twins.unchanged("a 41st service", x -> x.service(0, 0, 0, 1), FULL);
        twins.unchanged("an 11th text", x -> x.text(), FULL);
        for (int n = 1; n <= 8; n++) {
            int fed = n;
            twins.unchanged("bytes behind 300", x -> x.feed(fed, 'c'), FULL);
        }
    }

    /** What only asks changes nothing, whatever was asked ahead. */
    private static void asked(Twins twins, String name, OrchestraYear same) {
        for (int service : new int[] {SEATED, OF_12_CHAIRS, OF_FIVE, SEATED_OF_FIVE, PLAIN}) {
            twins.unchanged(name + " gaps", x -> x.gaps(service), same.gaps(service));
            twins.unchanged(name + " waits", x -> x.waits(service), same.waits(service));
            twins.unchanged(name + " order", x -> x.order(service, 1), same.order(service, 1));
            twins.unchanged(name + " may", x -> x.may(service, 0, 0), same.may(service, 0, 0));
            twins.unchanged(name + " worth", x -> x.worth(service, 2, 0, 1), same.worth(service, 2, 0, 1));
            twins.unchanged(name + " told", x -> x.serviceTold(service, 7), same.serviceTold(service, 7));
            for (boolean told : new boolean[] {false, true}) {
                twins.unchanged(name + " chair", x -> x.chair(service, 1, told), same.chair(service, 1, told));
            }
        }
        twins.unchanged(name + " due", x -> x.due(0, 0, 400, 1), same.due(0, 0, 400, 1));
        twins.unchanged(name + " programme", x -> x.programme(50, 10, 60), same.programme(50, 10, 60));
        twins.unchanged(name + " price", x -> x.price(3), same.price(3));
        twins.unchanged(name + " count", x -> x.count(6), same.count(6));
        twins.unchanged(name + " inForce", x -> x.inForce(5), same.inForce(5));
        twins.unchanged(name + " status", x -> x.status(), same.status());
        twins.unchanged(name + " workTold", x -> x.workTold(1, 4), 40);
        twins.unchanged(name + " playerTold", x -> x.playerTold(0, 4), 2);
        twins.unchanged(name + " played", x -> x.played(2, 0), 0);
    }
}
