/** Promises 18 gaps, 19 chair, 20 seat, 21 rise, 22 due. */
public final class SeatingTest {
    public static void main(String[] args) {
        Check check = new Check("SeatingTest");
        badOnes(check);
        fewestGaps(check);
        leastPlayers(check);
        leastByMoving(check);
        gapsBehind(check);
        greatSeating(check);
        seatedStays(check);
        rises(check);
        dues(check);
        duesOfKinds(check);
        duesAsThingsStand(check);
        check.finish();
    }

    private static void badOnes(Check check) {
        OrchestraYear x = new OrchestraYear();
        x.service(0, 0, 0, 1);
        for (int service = -1; service < 2; service += 2) {
            check.due("gaps", x.gaps(service), OrchestraYear.BAD);
            check.due("chair", x.chair(service, 0, false), OrchestraYear.BAD);
            check.due("seat", x.seat(service), OrchestraYear.BAD);
            check.due("rise", x.rise(service), OrchestraYear.BAD);
        }
        check.due("no chair", x.chair(0, 0, false), OrchestraYear.BAD);
        check.due("no chair", x.chair(0, 0, true), OrchestraYear.BAD);
        check.due("no gaps", x.gaps(0), 0);
        check.due("rise of what is not seated", x.rise(0), OrchestraYear.STATE);
        check.due("seated without works", x.seat(0), 0);
        check.due("seated", x.serviceTold(0, 6), 1);
        int service = Check.serviceFor(x, 0, 0, 0, 1, 2);
        check.due("chair -1", x.chair(service, -1, true), OrchestraYear.BAD);
        check.due("chair 2", x.chair(service, 2, false), OrchestraYear.BAD);
        check.due("chair 2", x.chair(service, 2, true), OrchestraYear.BAD);
        check.due("a gap", x.chair(service, 1, false), OrchestraYear.NONE);
        check.due("not seated", x.chair(service, 1, true), OrchestraYear.NONE);
    }

    private static void seating(Check check, OrchestraYear x, int service, int... want) {
        int gaps = 0;
        for (int i = 0; i < want.length; i++) {
            check.due("chair " + i, x.chair(service, i, false), want[i]);
            gaps += want[i] < 0 ? 1 : 0;
        }
        check.due("gaps", x.gaps(service), gaps);
        check.due("asking seats nobody", x.count(5), 0);
        check.due("seat", x.seat(service), gaps);
        for (int i = 0; i < want.length; i++) {
            check.due("told chair " + i, x.chair(service, i, true), want[i]);
        }
        check.due("told gaps", x.serviceTold(service, 7), gaps);
        check.due("chairs", x.serviceTold(service, 5), want.length);
    }

    private static void fewestGaps(Check check) {
        OrchestraYear x = new OrchestraYear();
        x.player(0, 2, 1);
        x.player(0, 0, 1);
        seating(check, x, Check.serviceFor(x, 0, 0, 0, 1, 5), 1, 0);
        OrchestraYear y = new OrchestraYear();
        y.player(0, 2 + 4, 1);
        y.player(0, 2, 1);
        y.player(0, 0, 1);
        seating(check, y, Check.serviceFor(y, 0, 0, 0, 1, 21), 2, 1, 0);
    }

    private static void leastPlayers(Check check) {
        OrchestraYear x = new OrchestraYear();
        x.player(1, 1, 1);
        x.player(0, 0, 1);
        x.player(1, 0, 1);
        x.player(0, 2, 1);
        seating(check, x, Check.serviceFor(x, 0, 0, 0, 1, 5), 0, 2);
        OrchestraYear y = new OrchestraYear();
        for (int i = 0; i < 10; i++) {
            y.player(i % 6, 63, 1);
        }
        y.leave(0, 3, 3);
        seating(check, y, Check.serviceFor(y, 0, 3, 0, 1, 2 + 4 + 2 * 1024), 1, 2, 3, 4, 5);
    }

    private static void leastByMoving(Check check) {
        OrchestraYear x = new OrchestraYear();
        x.player(0, 4, 1);
        x.player(0, 0, 1);
        x.player(1, 4, 1);
        check.due("no chairs, no gaps", x.gaps(x.service(0, 9, 0, 1)), 0);
        x.work(1, 0, 21);
        x.service(0, 0, 0, 1);
        x.call(1, 0);
        check.due("0 is needed on chair 2", x.chair(1, 0, false), 1);
        check.due("2 is needed on chair 1", x.chair(1, 1, false), 2);
        check.due("so 0 sits there", x.chair(1, 2, false), 0);
        x.player(1, 0, 1);
        seating(check, x, 1, 0, 3, 2);
    }

    private static void gapsBehind(Check check) {
        OrchestraYear x = new OrchestraYear();
        x.player(1, 1, 1);
        seating(check, x, Check.serviceFor(x, 0, 0, 0, 1, 5), 0, -1);
        OrchestraYear y = new OrchestraYear();
        y.player(0, 2, 1);
        y.player(1, 4, 1);
        seating(check, y, Check.serviceFor(y, 0, 0, 0, 1, 21), 0, 1, -1);
        OrchestraYear z = new OrchestraYear();
        z.player(3, 0, 1);
        z.player(2, 0, 1);
        seating(check, z, Check.serviceFor(z, 0, 0, 0, 1, 85), -1, -1, 1, 0);
    }

    private static void greatSeating(Check check) {
        OrchestraYear x = new OrchestraYear();
        for (int i = 9; i >= 0; i--) {
            x.player(i % 6, 0, 1);
        }
        // players 0 .. 9 have the posts 3 2 1 0 5 4 3 2 1 0
        seating(check, x, Check.serviceFor(x, 0, 0, 0, 1, 2 * (1 + 4 + 16 + 64 + 256 + 1024)),
            3, 9, 2, 8, 1, 7, 0, 6, 5, -1, 4, -1);
    }

    private static void seatedStays(Check check) {
        OrchestraYear x = new OrchestraYear();
        x.player(0, 0, 1);
        x.player(0, 0, 1);
        int service = Check.serviceFor(x, 0, 3, 10, 2, 1);
        check.due("seat", x.seat(service), 0);
        x.leave(0, 3, 3);
        check.due("what is told later does not change it", x.chair(service, 0, true), 0);
        check.due("THE SEATING is another one now", x.chair(service, 0, false), 1);
        check.due("told anew", x.seat(service), 0);
        check.due("it is", x.chair(service, 0, true), 1);
        check.due("0 sits there no more", x.playerTold(0, 4), 0);
        check.due("1 does", x.playerTold(1, 4), 1);
        x.leave(1, 0, 9);
        check.due("seat without players", x.seat(service), 1);
        check.due("a gap", x.chair(service, 0, true), OrchestraYear.NONE);
        check.due("one seated", x.count(5), 1);
        check.due("one gap", x.count(6), 1);
        OrchestraYear y = new OrchestraYear();
        y.player(0, 0, 1);
        int first = Check.serviceFor(y, 0, 3, 10, 2, 1);
        int second = Check.serviceFor(y, 0, 3, 11, 2, 1);
        y.seat(first);
        check.due("it sits in the other one", y.gaps(second), 1);
        check.due("its own seating does not matter", y.gaps(first), 0);
    }

    private static void rises(Check check) {
        OrchestraYear x = new OrchestraYear();
        x.player(0, 0, 1);
        int service = Check.serviceFor(x, 0, 3, 10, 2, 1);
        check.due("not seated", x.rise(service), OrchestraYear.STATE);
        x.seat(service);
        check.due("rise", x.rise(service), 1);
        check.due("seated no more", x.chair(service, 0, true), OrchestraYear.NONE);
        check.due("again", x.rise(service), OrchestraYear.STATE);
        check.due("nobody sits", x.playerTold(0, 4), 0);
        check.due("none is seated", x.count(5), 0);
    }

    private static void dues(Check check) {
        OrchestraYear x = new OrchestraYear();
        x.player(0, 0, 1);
        x.player(1, 0, 1);
        x.seat(Check.serviceFor(x, 0, 10, 0, 1, 1));
        x.seat(Check.serviceFor(x, 1, 20, 0, 2, 1));
        x.seat(Check.serviceFor(x, 2, 30, 0, 4, 1));
        check.due("hours", x.due(0, 0, 400, 0), 7);
        check.due("pay", x.due(0, 0, 400, 1), 70);
        check.due("both days count", x.due(0, 10, 30, 0), 7);
        check.due("not the first one", x.due(0, 11, 30, 0), 6);
        check.due("not the last one", x.due(0, 10, 29, 0), 3);
        check.due("one day", x.due(0, 20, 20, 1), 20);
        check.due("of nothing", x.due(1, 0, 400, 1), 0);
        check.due("from above to", x.due(0, 20, 19, 1), OrchestraYear.NO);
        check.due("from -1", x.due(0, -1, 19, 1), OrchestraYear.NO);
        check.due("to 401", x.due(0, 0, 401, 1), OrchestraYear.NO);
        check.due("what 2", x.due(0, 0, 400, 2), OrchestraYear.NO);
        check.due("what -1", x.due(0, 0, 400, -1), OrchestraYear.NO);
        check.due("player 2", x.due(2, 0, 400, 0), OrchestraYear.NO);
        check.due("player -1", x.due(-1, 0, 400, 0), OrchestraYear.NO);
        x.rise(1);
        check.due("it sits there no more", x.due(0, 0, 400, 0), 5);
    }

    private static void duesOfKinds(Check check) {
        long[] hours = {-3, -3, -3, -1, -3, -6};
        long[] pays = {-7, -7, -7, -2, -3, -14};
        long[] oddPays = {7, 7, 7, 12, 3, 14};
        for (int kind = 0; kind < 6; kind++) {
            OrchestraYear x = Check.under("count - 3; pay 7 - 14 * (desk = 1);");
            x.player(0, 0, 1);
            x.player(1, 0, 2);
            x.seat(Check.serviceFor(x, kind, 5, 5, 5, 5));
            check.due("hours of kind " + kind, x.due(0, 5, 5, 0), hours[kind]);
            check.due("pay of kind " + kind, x.due(0, 5, 5, 1), pays[kind]);
            check.due("pay of kind " + kind, x.due(1, 5, 5, 1), oddPays[kind]);
        }
    }

    private static void duesAsThingsStand(Check check) {
        OrchestraYear x = Check.under("count week; pay chair * 100 + double * 10 + rest;");
        x.player(0, 8, 1);
        x.seat(Check.serviceFor(x, 0, 7, 10, 2, 64));
        check.due("alone", x.due(0, 0, 400, 0), 0);
        check.due("on the chair of its double", x.due(0, 0, 400, 1), 409);
        x.seat(Check.serviceFor(x, 0, 7, 14, 3, 1));
        check.due("each counts the other", x.due(0, 0, 400, 0), 5);
        check.due("rest of the second one", x.due(0, 0, 400, 1), 411);
        x.force(1, 8);
        check.due("by the text in force now", x.due(0, 0, 400, 0), 5);
        check.due("by the text in force now", x.due(0, 0, 400, 1), 50);
    }
}
