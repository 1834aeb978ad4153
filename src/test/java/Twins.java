import java.util.ArrayList;
import java.util.List;
import java.util.function.Supplier;
import java.util.function.ToLongFunction;

/**
 * Compares an object on which a call was made with one made alike on which it was not: all that can be seen of them.
 * Each page of looks has objects of its own, so that none is used for more than 512 calls.
 */
final class Twins {
    private static final int PAGES = 12;

    private final Check check;
    private final Supplier<OrchestraYear> maker;
    private final List<List<Long>> untouched = new ArrayList<>();

    Twins(Check check, Supplier<OrchestraYear> maker) {
        this.check = check;
        this.maker = maker;
        for (int page = 0; page < PAGES; page++) {
            untouched.add(look(maker.get(), page));
        }
    }

    /** The call answers what is due, and changes nothing that can be seen, nor STATUS. */
    void unchanged(String what, ToLongFunction<OrchestraYear> call, long want) {
        unchanged(what, call, want, maker.get().status());
    }

    /** The same, but for STATUS, which is as told then. */
    void unchanged(String what, ToLongFunction<OrchestraYear> call, long want, int status) {
        for (int page = 0; page < PAGES; page++) {
            OrchestraYear x = maker.get();
            check.due(what, call.applyAsLong(x), want);
            check.due(what + ": status", x.status(), status);
            List<Long> seen = look(x, page);
            List<Long> wanted = untouched.get(page);
            for (int i = 0; i < seen.size(); i++) {
                check.due(what + " changes nothing, page " + page + ", look " + i, seen.get(i), wanted.get(i));
            }
        }
    }

    private static List<Long> look(OrchestraYear x, int page) {
        List<Long> seen = new ArrayList<>();
        switch (page) {
            case 0: lookAtWorks(x, seen); break;
            case 1: lookAtPlayers(x, seen); break;
            case 2: lookAtServices(x, seen, 0); break;
            case 3: lookAtServices(x, seen, 20); break;
            case 4: lookAtForce(x, seen, 0); break;
            case 5: lookAtForce(x, seen, 200); break;
            case 6: lookAtChairs(x, seen); break;
            case 7: lookAtWorths(x, seen); break;
            case 8: lookAtOrders(x, seen); break;
            case 9: lookAtTrays(x, seen); break;
            case 10: lookAtLeaves(x, seen); break;
            default: lookAtTape(x, seen); break;
        }
        return seen;
    }

    private static void lookAtWorks(OrchestraYear x, List<Long> seen) {
        for (int what = 0; what <= 6; what++) {
            seen.add((long) x.count(what));
        }
        for (int work = 0; work < 12; work++) {
            for (int what = 0; what <= 5; what++) {
                seen.add((long) x.workTold(work, what));
            }
            for (int day = 0; day <= 400; day += 80) {
                seen.add((long) x.played(work, day));
            }
            seen.add((long) x.price(1 << work));
        }
    }

    private static void lookAtPlayers(OrchestraYear x, List<Long> seen) {
        for (int player = 0; player < 10; player++) {
            for (int what = 0; what <= 4; what++) {
                seen.add((long) x.playerTold(player, what));
            }
            seen.add(x.due(player, 0, 400, 0));
            seen.add(x.due(player, 0, 400, 1));
            for (int instrument = 0; instrument < 6; instrument++) {
                for (int service = 0; service < 3; service++) {
                    seen.add((long) x.may(service, player, instrument));
                }
            }
        }
    }

    private static void lookAtServices(OrchestraYear x, List<Long> seen, int first) {
        for (int service = first; service < first + 20; service++) {
            for (int what = 0; what <= 12; what++) {
                seen.add((long) x.serviceTold(service, what));
            }
        }
    }

    private static void lookAtForce(OrchestraYear x, List<Long> seen, int first) {
        for (int day = first; day <= first + 200; day++) {
            seen.add((long) x.inForce(day));
        }
    }

    private static void lookAtChairs(OrchestraYear x, List<Long> seen) {
        for (int service = 0; service < 6; service++) {
            seen.add((long) x.gaps(service));
            for (int chair = 0; chair <= 12; chair++) {
                seen.add((long) x.chair(service, chair, false));
                seen.add((long) x.chair(service, chair, true));
            }
        }
    }

    private static void lookAtWorths(OrchestraYear x, List<Long> seen) {
        for (int service = 0; service < 4; service++) {
            for (int player = 0; player < 10; player++) {
                for (int what = 0; what <= 3; what++) {
                    seen.add(x.worth(service, player, 0, what));
                }
            }
        }
    }

    private static void lookAtOrders(OrchestraYear x, List<Long> seen) {
        for (int service = 0; service < 8; service++) {
            seen.add((long) x.waits(service));
            for (int i = 0; i <= 5; i++) {
                seen.add((long) x.order(service, i));
            }
        }
        for (int day = 0; day <= 400; day += 40) {
            for (int low = 0; low <= 60; low += 12) {
                seen.add((long) x.programme(day, low, low + 11));
            }
        }
    }

    private static void lookAtTrays(OrchestraYear x, List<Long> seen) {
        for (int tray = 0; tray < 6; tray++) {
            for (int n = 0; n < 10; n++) {
                for (int what = 0; what <= 3; what++) {
                    seen.add((long) x.forge(tray, what, n));
                }
            }
        }
    }

    private static void lookAtLeaves(OrchestraYear x, List<Long> seen) {
        for (int day = 0; day <= 400; day += 16) {
            x.put(0, 4, day);
            for (int player = 0; player < 10; player++) {
                seen.add((long) x.forge(0, 3, player));
            }
        }
    }

    /** Its bytes can be seen once it is a text, if it can be one. */
    private static void lookAtTape(OrchestraYear x, List<Long> seen) {
        int text = x.text();
        seen.add((long) text);
        seen.add((long) x.force(text, 0));
        x.put(0, 2, 0);
        for (int n = 0; n < 60; n++) {
            seen.add((long) x.forge(0, 1, n));
        }
    }
}
