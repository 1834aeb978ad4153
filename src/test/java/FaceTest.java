import java.lang.reflect.Constructor;
import java.lang.reflect.Field;
import java.lang.reflect.Method;
import java.lang.reflect.Modifier;
import java.util.Arrays;
import java.util.TreeSet;

/** The public face, and promise 1. */
public final class FaceTest {
    private static final String[] METHODS = {
        "int work(int, int, int)", "int score(int, int, int, int)", "int player(int, int, int)",
        "int leave(int, int, int)", "int service(int, int, int, int)", "int call(int, int)",
        "int workTold(int, int)", "int played(int, int)", "int playerTold(int, int)", "int serviceTold(int, int)",
        "int feed(int, long)", "int text()", "int force(int, int)", "int inForce(int)",
        "int may(int, int, int)", "long worth(int, int, int, int)", "int gaps(int)",
        "int chair(int, int, boolean)", "int seat(int)", "int rise(int)", "long due(int, int, int, int)",
        "int waits(int)", "int order(int, int)", "int programme(int, int, int)", "int price(int)",
        "int count(int)", "int put(int, int, int)", "int forge(int, int, int)", "int status()"};

    public static void main(String[] args) {
        Check check = new Check("FaceTest");
        constants(check);
        members(check);
        newObject(check);
        check.finish();
    }

    private static void constants(Check check) {
        check.due("NONE", OrchestraYear.NONE, -1);
        check.due("BAD", OrchestraYear.BAD, -2);
        check.due("STATE", OrchestraYear.STATE, -3);
        check.due("FULL", OrchestraYear.FULL, -4);
        check.due("NO", OrchestraYear.NO, -4611686018427387904L);
    }

    private static void members(Check check) {
        TreeSet<String> found = new TreeSet<>();
        for (Method method : OrchestraYear.class.getDeclaredMethods()) {
            if (!Modifier.isPrivate(method.getModifiers())) {
                String types = Arrays.toString(Arrays.stream(method.getParameterTypes()).map(Class::getName).toArray());
                found.add(method.getReturnType().getName() + " " + method.getName()
                    + types.replace('[', '(').replace(']', ')'));
            }
        }
        TreeSet<String> wanted = new TreeSet<>(Arrays.asList(METHODS));
        if (!found.equals(wanted)) {
            System.out.println("found " + found + ", wanted " + wanted);
        }
        check.due("the methods are the document's", found.equals(wanted) ? 1 : 0, 1);
        int seen = 0;
        for (Field field : OrchestraYear.class.getDeclaredFields()) {
            seen += Modifier.isPrivate(field.getModifiers()) ? 0 : 1;
        }
        check.due("constants that are seen", seen, 5);
        Constructor<?>[] made = OrchestraYear.class.getDeclaredConstructors();
        check.due("constructors", made.length, 1);
        check.due("its parameters", made[0].getParameterCount(), 0);
        check.due("public final", OrchestraYear.class.getModifiers(), Modifier.PUBLIC | Modifier.FINAL);
    }

    private static void newObject(Check check) {
        OrchestraYear x = new OrchestraYear();
        int[] counts = {0, 0, 0, 1, 0, 0, 0};
        for (int what = 0; what < counts.length; what++) {
            check.due("new: count(" + what + ")", x.count(what), counts[what]);
        }
        check.due("new: status()", x.status(), 0);
        check.due("new: inForce(0)", x.inForce(0), 0);
        check.due("new: inForce(400)", x.inForce(400), 0);
        for (int tray = 0; tray < 6; tray++) {
            x.forge(tray, 0, 0);
            check.due("new: tray " + tray + " holds nothing", x.status(), 10);
        }
        check.due("new: workTold(0, 0)", x.workTold(0, 0), OrchestraYear.BAD);
        check.due("new: playerTold(0, 0)", x.playerTold(0, 0), OrchestraYear.BAD);
        check.due("new: serviceTold(0, 0)", x.serviceTold(0, 0), OrchestraYear.BAD);
        check.due("new: force(1, 0)", x.force(1, 0), OrchestraYear.BAD);
    }
}
