/** Promises 6 service, 7 call, 11 serviceTold, 27 count. */
public final class ServicesTest {
    public static void main(String[] args) {
        Check check = new Check("ServicesTest");
        services(check);
        calls(check);
        refusedCalls(check);
        told(check);
        counts(check);
        check.finish();
    }

    private static void services(Check check) {
        OrchestraYear x = new OrchestraYear();
        int[][] bad = {{-1, 0, 0, 1}, {6, 0, 0, 1}, {0, -1, 0, 1}, {0, 401, 0, 1}, {0, 0, -1, 1}, {0, 0, 24, 1},
            {0, 0, 0, 0}, {0, 0, 0, 9}, {Integer.MIN_VALUE, 0, 0, 1}, {0, 0, 0, Integer.MAX_VALUE}};
        for (int[] s : bad) {
            check.due("service of bad numbers", x.service(s[0], s[1], s[2], s[3]), OrchestraYear.BAD);
        }
        check.due("bad services change nothing", x.count(2), 0);
        check.due("service(0, 0, 0, 1)", x.service(0, 0, 0, 1), 0);
        check.due("service(5, 400, 23, 8)", x.service(5, 400, 23, 8), 1);
        for (int i = 2; i < 40; i++) {
            check.due("service " + i, x.service(i % 6, i, i % 24, 1), i);
        }
        check.due("a 41st service", x.service(0, 0, 0, 1), OrchestraYear.FULL);
        check.due("BAD goes ahead of FULL", x.service(0, 0, 0, 0), OrchestraYear.BAD);
        check.due("the last one", x.serviceTold(39, 1), 39);
        for (int i = 40; i < 43; i++) {
            check.due("none behind it", x.serviceTold(i, 0), OrchestraYear.BAD);
            check.due("none behind it", x.seat(i), OrchestraYear.BAD);
            check.due("none behind it", x.put(0, 1, i), -1);
        }
        check.due("count(2)", x.count(2), 40);
    }

    private static void calls(Check check) {
        OrchestraYear x = new OrchestraYear();
        for (int i = 0; i < 6; i++) {
            x.work(10, 0, 1 << (2 * i));
        }
        x.work(10, 0, 2);
        x.service(0, 0, 0, 1);
        x.service(4, 0, 0, 1);
        check.due("no chairs at first", x.serviceTold(0, 5), 0);
        check.due("first work", x.call(0, 5), 1);
        check.due("second work", x.call(0, 0), 2);
        check.due("chairs", x.serviceTold(0, 5), 2);
        check.due("the greatest need counts", x.call(0, 6), 3);
        check.due("chairs", x.serviceTold(0, 5), 3);
        check.due("a school", x.call(1, 6), 1);
        check.due("needs one at most", x.serviceTold(1, 5), 1);
        check.due("the fourth", x.call(0, 1), 4);
        check.due("the fifth", x.call(0, 2), 5);
        check.due("a sixth", x.call(0, 3), OrchestraYear.FULL);
        check.due("STATE goes ahead of FULL", x.call(0, 2), OrchestraYear.STATE);
        check.due("FULL changes nothing", x.serviceTold(0, 5), 5);
        int many = x.work(1, 0, 4095);
        check.due("chairs go ahead of FULL", x.call(0, many), OrchestraYear.STATE);
    }

    private static void refusedCalls(Check check) {
        OrchestraYear x = new OrchestraYear();
        check.due("nothing there", x.call(0, 0), OrchestraYear.BAD);
        x.work(10, 0, 63 + 3 * 64);
        x.work(10, 0, 256);
        x.service(0, 0, 0, 1);
        check.due("work 2", x.call(0, 2), OrchestraYear.BAD);
        check.due("work -1", x.call(0, -1), OrchestraYear.BAD);
        check.due("service 1", x.call(1, 0), OrchestraYear.BAD);
        check.due("service -1", x.call(-1, 0), OrchestraYear.BAD);
        check.due("12 chairs are not too many", x.call(0, 0), 1);
        check.due("chairs", x.serviceTold(0, 5), 12);
        check.due("13 are", x.call(0, 1), OrchestraYear.STATE);
        check.due("it has that one", x.call(0, 0), OrchestraYear.STATE);
        check.due("still one work", x.serviceTold(0, 4), 1);
        x.service(0, 1, 0, 1);
        x.seat(1);
        check.due("it is seated, without works", x.call(1, 1), OrchestraYear.STATE);
        check.due("BAD goes ahead of STATE", x.call(1, 7), OrchestraYear.BAD);
        x.rise(1);
        check.due("it is not any more", x.call(1, 1), 1);
    }

    private static void told(Check check) {
        OrchestraYear x = new OrchestraYear();
        x.work(1, 1, 3);
        x.work(1, 1, 16);
        x.player(0, 0, 1);
        x.service(0, 0, 0, 1);
        x.service(2, 31, 17, 5);
        x.call(1, 1);
        x.call(1, 0);
        int[] want = {2, 31, 17, 5, 2, 4, 0, -1, 1, 0, -1, -1, -1, -1};
        for (int what = 0; what < want.length; what++) {
            check.due("serviceTold(1, " + what + ")", x.serviceTold(1, what), want[what]);
        }
        check.due("any what above", x.serviceTold(1, Integer.MAX_VALUE), OrchestraYear.NONE);
        check.due("what -1", x.serviceTold(1, -1), OrchestraYear.BAD);
        check.due("what MIN", x.serviceTold(1, Integer.MIN_VALUE), OrchestraYear.BAD);
        check.due("service 2", x.serviceTold(2, 0), OrchestraYear.BAD);
        check.due("service -1", x.serviceTold(-1, 0), OrchestraYear.BAD);
        x.seat(1);
        check.due("seated", x.serviceTold(1, 6), 1);
        check.due("gaps in it", x.serviceTold(1, 7), 3);
        x.player(2, 0, 1);
        check.due("what is told later does not change it", x.serviceTold(1, 7), 3);
        x.rise(1);
        check.due("seated no more", x.serviceTold(1, 6), 0);
        check.due("no gaps are told", x.serviceTold(1, 7), OrchestraYear.NONE);
    }

    private static void counts(Check check) {
        OrchestraYear x = new OrchestraYear();
        check.due("count(-1)", x.count(-1), OrchestraYear.BAD);
        check.due("count(7)", x.count(7), OrchestraYear.BAD);
        x.player(0, 0, 1);
        Check.serviceFor(x, 0, 0, 0, 1, 3);
        Check.serviceFor(x, 0, 1, 0, 1, 2);
        x.service(0, 2, 0, 1);
        Check.feed(x, "count");
        x.seat(0);
        x.seat(1);
        int[] want = {2, 1, 3, 1, 5, 2, 3};
        for (int what = 0; what < want.length; what++) {
            check.due("count(" + what + ")", x.count(what), want[what]);
        }
        x.seat(0);
        check.due("told anew, it counts once", x.count(5), 2);
        x.rise(0);
        check.due("seated", x.count(5), 1);
        check.due("gaps in these", x.count(6), 1);
        Check.feed(x, " 1 ; pay 1 ;");
        x.text();
        check.due("texts", x.count(3), 2);
        check.due("the tape is empty", x.count(4), 0);
    }
}
