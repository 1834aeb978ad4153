/** Promises 28 put, 29 forge, 30 status. */
public final class TraysTest {
    public static void main(String[] args) {
        Check check = new Check("TraysTest");
        puts(check);
        badForges(check);
        services(check);
        bytes(check);
        pays(check);
        truths(check);
        sorts(check);
        copies(check);
        laid(check);
        others(check);
        check.finish();
    }

    private static void refused(Check check, String what, OrchestraYear x, int got, int status) {
        check.due(what, got, -1);
        check.due(what + ": status", x.status(), status);
    }

    private static void done(Check check, String what, OrchestraYear x, int got, int want) {
        check.due(what, got, want);
        check.due(what + ": status", x.status(), 0);
    }

    private static void puts(Check check) {
        OrchestraYear x = new OrchestraYear();
        x.service(0, 77, 0, 1);
        done(check, "a service", x, x.put(5, 1, 0), 1);
        refused(check, "tray 6", x, x.put(6, 0, 0), 1);
        refused(check, "tray -1", x, x.put(-1, 0, 0), 1);
        refused(check, "what 5", x, x.put(5, 5, 0), 1);
        refused(check, "what -1", x, x.put(5, -1, 0), 1);
        refused(check, "service 1", x, x.put(5, 1, 1), 1);
        refused(check, "service -1", x, x.put(5, 1, -1), 1);
        refused(check, "bytes of day 401", x, x.put(5, 2, 401), 1);
        refused(check, "bytes of day -1", x, x.put(5, 2, -1), 1);
        refused(check, "truths of day 401", x, x.put(5, 4, 401), 1);
        refused(check, "truths of day -1", x, x.put(5, 4, -1), 1);
        done(check, "what is refused changes nothing", x, x.forge(5, 0, 0), 77);
        done(check, "bytes of day 400", x, x.put(4, 2, 400), 1);
        done(check, "truths of day 400", x, x.put(4, 4, 400), 1);
        done(check, "pays of any n", x, x.put(4, 3, -12345), 1);
        done(check, "nothing of any n", x, x.put(5, 0, 12345), 1);
        refused(check, "nothing is there", x, x.forge(5, 0, 0), 10);
        check.due("status() changes nothing", x.status(), 10);
    }

    private static void badForges(Check check) {
        OrchestraYear x = new OrchestraYear();
        refused(check, "tray 6", x, x.forge(6, 7, 1), 1);
        refused(check, "tray -1", x, x.forge(-1, 7, 1), 1);
        refused(check, "what 9", x, x.forge(0, 9, 1), 1);
        refused(check, "what -1", x, x.forge(0, -1, 1), 1);
        refused(check, "n 101", x, x.forge(0, 7, 101), 1);
        refused(check, "n -101", x, x.forge(0, 4, -101), 1);
        done(check, "n 100", x, x.forge(0, 7, 100), 10);
        done(check, "n -100", x, x.forge(0, 7, -100), -10);
    }

    private static void services(Check check) {
        int[][] under = {{0}, {0, 1}, {0, 2}, {0, 2, 3}, {0, 4}, {0, 1, 5}};
        for (int kind = 0; kind < 6; kind++) {
            OrchestraYear x = new OrchestraYear();
            x.service(kind, 50 + kind, 0, 1);
            x.put(0, 1, 0);
            for (int n = -7; n < 13; n++) {
                boolean fits = false;
                for (int above : under[kind]) {
                    fits |= above == (n + 12) % 6;
                }
                String what = "a service of kind " + kind + " taken for " + n;
                if (fits) {
                    done(check, what, x, x.forge(0, 0, n), 50 + kind);
                } else {
                    refused(check, what, x, x.forge(0, 0, n), 11);
                }
            }
        }
    }

    private static void bytes(Check check) {
        OrchestraYear x = new OrchestraYear();
        String first = "count long ; pay long * 10 ;";
        x.put(0, 2, 0);
        for (int i = 0; i < first.length(); i++) {
            done(check, "byte " + i, x, x.forge(0, 1, i), first.charAt(i));
        }
        refused(check, "behind its end", x, x.forge(0, 1, first.length()), 12);
        refused(check, "ahead of its beginning", x, x.forge(0, 1, -1), 12);
        String second = "\n count 1 ;\n pay 2 ; ";
        Check.text(x, second);
        x.force(1, 9);
        x.put(1, 2, 9);
        x.put(2, 2, 8);
        x.force(1, 0);
        done(check, "of the day", x, x.forge(1, 1, 0), 10);
        done(check, "its last byte", x, x.forge(1, 1, second.length() - 1), 32);
        refused(check, "behind its end", x, x.forge(1, 1, second.length()), 12);
        done(check, "of the day ahead, as it was when it was put", x, x.forge(2, 1, 0), 'c');
    }

    private static void pays(Check check) {
        OrchestraYear x = Check.under("count 1; pay 99999 * 99999;");
        x.player(0, 0, 1);
        x.player(1, 0, 1);
        x.seat(Check.serviceFor(x, 0, 400, 0, 1, 4));
        x.put(0, 3, 0);
        done(check, "pay of 0", x, x.forge(0, 2, 0), 0);
        done(check, "pay of 1, as an int", x, x.forge(0, 2, 1), (int) (99999L * 99999L));
        refused(check, "pay of 2", x, x.forge(0, 2, 2), 12);
        refused(check, "pay of -1", x, x.forge(0, 2, -1), 12);
        OrchestraYear y = new OrchestraYear();
        y.player(0, 0, 1);
        y.seat(Check.serviceFor(y, 0, 0, 0, 3, 1));
        y.put(0, 3, 0);
        done(check, "pay of 0", y, y.forge(0, 2, 0), 30);
        x.player(2, 0, 1);
        x.rise(0);
        done(check, "as it was when it was put", x, x.forge(0, 2, 1), (int) (99999L * 99999L));
        refused(check, "as many as there were", x, x.forge(0, 2, 2), 12);
        x.put(0, 3, 0);
        done(check, "put anew", x, x.forge(0, 2, 2), 0);
        done(check, "put anew", x, x.forge(0, 2, 1), 0);
    }

    private static void truths(Check check) {
        OrchestraYear x = new OrchestraYear();
        x.player(0, 0, 1);
        x.player(0, 0, 1);
        x.leave(1, 3, 4);
        x.put(0, 4, 4);
        x.put(1, 4, 5);
        x.leave(0, 0, 400);
        x.player(0, 0, 1);
        done(check, "no leave when it was put", x, x.forge(0, 3, 0), 0);
        done(check, "a leave", x, x.forge(0, 3, 1), 1);
        done(check, "no leave on the day", x, x.forge(1, 3, 1), 0);
        x.put(2, 4, 400);
        done(check, "a leave of 0", x, x.forge(2, 3, 0), 1);
        done(check, "none of 1", x, x.forge(2, 3, 1), 0);
        x.put(2, 4, 3);
        x.put(1, 4, 0);
        done(check, "put anew", x, x.forge(2, 3, 1), 1);
        done(check, "put anew", x, x.forge(1, 3, 1), 0);
        x.put(2, 4, 0);
        done(check, "put anew where it was another", x, x.forge(2, 3, 1), 0);
        refused(check, "of 2", x, x.forge(0, 3, 2), 12);
        refused(check, "of -1", x, x.forge(0, 3, -1), 12);
    }

    private static void sorts(Check check) {
        OrchestraYear x = new OrchestraYear();
        x.player(0, 0, 1);
        x.service(0, 33, 0, 1);
        x.put(1, 1, 0);
        x.put(2, 2, 0);
        x.put(3, 3, 0);
        x.put(4, 4, 0);
        int[] takes = {1, 2, 3, 4};
        int[] answers = {33, 'c', 0, 0};
        for (int what = 0; what < takes.length; what++) {
            refused(check, "nothing, what " + what, x, x.forge(0, what, 0), 10);
            for (int tray = 1; tray < 5; tray++) {
                if (tray == takes[what]) {
                    done(check, "tray " + tray + ", what " + what, x, x.forge(tray, what, 0), answers[what]);
                } else {
                    refused(check, "tray " + tray + ", what " + what, x, x.forge(tray, what, 0), 11);
                }
            }
        }
        refused(check, "nothing, a place outside", x, x.forge(0, 1, -1), 10);
        refused(check, "another sort, a place outside", x, x.forge(4, 1, -1), 11);
    }

    private static void copies(Check check) {
        OrchestraYear x = Check.under("count 1; pay 10 * desk;");
        x.put(0, 3, 0);
        refused(check, "no pays at all", x, x.forge(0, 5, 0), 12);
        for (int i = 0; i < 4; i++) {
            x.player(0, 0, i + 1);
        }
        x.seat(Check.serviceFor(x, 0, 0, 0, 1, 3));
        x.put(0, 3, 0);
        done(check, "none", x, x.forge(0, 5, 0), 0);
        done(check, "the second one", x, x.forge(0, 5, 1), 20);
        done(check, "two", x, x.forge(0, 5, 2), 50);
        refused(check, "three have no place in the row", x, x.forge(0, 5, 3), 12);
        refused(check, "below 0", x, x.forge(0, 5, -1), 12);
        refused(check, "nothing", x, x.forge(1, 5, -1), 10);
        x.put(1, 4, 0);
        refused(check, "truths", x, x.forge(1, 5, -1), 11);
        OrchestraYear y = new OrchestraYear();
        y.player(0, 0, 1);
        y.put(0, 3, 0);
        done(check, "none of one", y, y.forge(0, 5, 0), 0);
        refused(check, "one has no second", y, y.forge(0, 5, 1), 12);
        y.player(0, 0, 1);
        y.put(0, 3, 0);
        done(check, "two have", y, y.forge(0, 5, 1), 0);
        refused(check, "two have no third", y, y.forge(0, 5, 2), 12);
        OrchestraYear z = Check.under("count 1; pay 99999 * 30000;");
        z.player(0, 0, 1);
        z.player(0, 0, 1);
        z.player(0, 0, 1);
        z.seat(Check.serviceFor(z, 0, 0, 0, 1, 3));
        z.put(0, 3, 0);
        done(check, "the sum, as an int", z, z.forge(0, 5, 2), (int) (2 * 99999L * 30000L));
    }

    private static void laid(Check check) {
        OrchestraYear x = new OrchestraYear();
        done(check, "nothing", x, x.forge(0, 6, 5), 0);
        for (int kind = 0; kind < 6; kind++) {
            x.service(kind, 60 + kind, 0, 1);
            x.put(0, 1, kind);
            if (kind == 1 || kind == 5) {
                done(check, "kind " + kind, x, x.forge(0, 6, 0), 60 + kind);
            } else {
                refused(check, "kind " + kind, x, x.forge(0, 6, 0), 14);
            }
        }
        for (int what = 2; what < 5; what++) {
            x.put(0, what, 0);
            refused(check, "what " + what, x, x.forge(0, 6, 0), 14);
        }
    }

    private static void others(Check check) {
        OrchestraYear x = new OrchestraYear();
        done(check, "a row of none", x, x.forge(0, 4, 0), 0);
        done(check, "a row of 100", x, x.forge(0, 4, 100), 100);
        refused(check, "a row of -1", x, x.forge(0, 4, -1), 13);
        done(check, "1000 by 7", x, x.forge(0, 7, 7), 142);
        done(check, "1000 by -7", x, x.forge(0, 7, -7), -142);
        refused(check, "1000 by 0", x, x.forge(0, 7, 0), 15);
        refused(check, "a failure that is none", x, x.forge(0, 8, 1), 10);
        x.put(0, 0, 0);
        check.due("status of put", x.status(), 0);
    }
}
