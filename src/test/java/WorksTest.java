/** Promises 2 work, 3 score, 8 workTold, 9 played. */
public final class WorksTest {
    public static void main(String[] args) {
        Check check = new Check("WorksTest");
        works(check);
        scores(check);
        told(check);
        played(check);
        check.finish();
    }

    private static void works(Check check) {
        OrchestraYear x = new OrchestraYear();
        int[][] bad = {{0, 0, 0}, {91, 0, 0}, {-1, 0, 0}, {1, -1, 0}, {1, 1001, 0}, {1, 0, -1}, {1, 0, 4096},
            {Integer.MIN_VALUE, 0, 0}, {1, Integer.MAX_VALUE, 0}, {1, 0, Integer.MIN_VALUE}};
        for (int[] w : bad) {
            check.due("work of bad numbers", x.work(w[0], w[1], w[2]), OrchestraYear.BAD);
        }
        check.due("bad works change nothing", x.count(0), 0);
        check.due("work(1, 0, 0)", x.work(1, 0, 0), 0);
        check.due("work(90, 1000, 4095)", x.work(90, 1000, 4095), 1);
        for (int i = 2; i < 12; i++) {
            check.due("work " + i, x.work(i, i, i), i);
        }
        check.due("a 13th work", x.work(1, 0, 0), OrchestraYear.FULL);
        check.due("BAD goes ahead of FULL", x.work(0, 0, 0), OrchestraYear.BAD);
        check.due("the last one", x.workTold(11, 0), 11);
        for (int i = 12; i < 15; i++) {
            check.due("none behind it", x.workTold(i, 0), OrchestraYear.BAD);
            check.due("none behind it", x.played(i, 0), OrchestraYear.BAD);
            check.due("none behind it", x.score(i, 0, 0, 0), OrchestraYear.BAD);
        }
        check.due("count(0)", x.count(0), 12);
    }

    private static void scores(Check check) {
        OrchestraYear x = new OrchestraYear();
        check.due("score of no work", x.score(0, 0, 0, 0), OrchestraYear.BAD);
        x.work(5, 5, 5);
        check.due("score(-1, ..)", x.score(-1, 0, 0, 0), OrchestraYear.BAD);
        check.due("how -1", x.score(0, -1, 0, 0), OrchestraYear.BAD);
        check.due("how 3", x.score(0, 3, 0, 0), OrchestraYear.BAD);
        check.due("from above to", x.score(0, 1, 5, 4), OrchestraYear.BAD);
        check.due("from below 0", x.score(0, 1, -1, 4), OrchestraYear.BAD);
        check.due("to above 400", x.score(0, 1, 0, 401), OrchestraYear.BAD);
        check.due("refused, so OURS", x.workTold(0, 3), 0);
        check.due("hired for one day", x.score(0, 1, 7, 7), 1);
        check.due("hired for all days", x.score(0, 1, 0, 400), 1);
        check.due("state", x.workTold(0, 3), 1);
        check.due("from", x.workTold(0, 4), 0);
        check.due("to", x.workTold(0, 5), 400);
        check.due("refused", x.score(0, 1, 9, 8), OrchestraYear.BAD);
        check.due("refusal changes nothing", x.workTold(0, 5), 400);
        check.due("lost, days do not matter", x.score(0, 2, 500, -500), 1);
        check.due("state", x.workTold(0, 3), 2);
        check.due("no days of LOST", x.workTold(0, 4), OrchestraYear.NONE);
        check.due("no days of LOST", x.workTold(0, 5), OrchestraYear.NONE);
        check.due("ours again, days do not matter", x.score(0, 0, 9, 1), 1);
        check.due("state", x.workTold(0, 3), 0);
        check.due("no days of OURS", x.workTold(0, 5), OrchestraYear.NONE);
    }

    private static void told(Check check) {
        OrchestraYear x = new OrchestraYear();
        x.work(11, 22, 33);
        x.work(44, 55, 66);
        int[] want = {44, 55, 66, 0, -1, -1};
        for (int what = 0; what < want.length; what++) {
            check.due("workTold(1, " + what + ")", x.workTold(1, what), want[what]);
        }
        check.due("what -1", x.workTold(1, -1), OrchestraYear.BAD);
        check.due("what 6", x.workTold(1, 6), OrchestraYear.BAD);
        check.due("work 2", x.workTold(2, 0), OrchestraYear.BAD);
        check.due("work -1", x.workTold(-1, 0), OrchestraYear.BAD);
    }

    private static void played(Check check) {
        OrchestraYear x = new OrchestraYear();
        x.work(1, 1, 1);
        check.due("ours", x.played(0, 0), 1);
        check.due("ours", x.played(0, 400), 1);
        check.due("day 401", x.played(0, 401), OrchestraYear.BAD);
        check.due("day -1", x.played(0, -1), OrchestraYear.BAD);
        check.due("work 1", x.played(1, 0), OrchestraYear.BAD);
        check.due("work -1", x.played(-1, 0), OrchestraYear.BAD);
        x.score(0, 1, 10, 12);
        check.due("day ahead of the hire", x.played(0, 9), 0);
        check.due("its first day", x.played(0, 10), 1);
        check.due("its last day", x.played(0, 12), 1);
        check.due("day behind the hire", x.played(0, 13), 0);
        x.score(0, 2, 10, 12);
        check.due("lost", x.played(0, 11), 0);
        x.score(0, 0, 0, 0);
        check.due("ours again", x.played(0, 300), 1);
    }
}
