import java.lang.reflect.Constructor;
import java.lang.reflect.Field;
import java.lang.reflect.Method;
import java.lang.reflect.Modifier;
import java.util.Set;
import java.util.TreeSet;

/** The public face, member by member, and promise 1: what a new object is like. */
public final class FaceTest {
    private static final String[] METHODS = {
        "int walker(int,int,int,int)", "int purse(int,int,int,int)", "int likes(int,int,int)",
        "int wind(int,int,int)", "int say(int)", "int wipe()", "int fault()", "int judge(int)", "int done()",
        "int behind(int,int)", "int then(int)", "int when(int)", "int pass(int,int,int)", "int arms(int,int)",
        "int paid(int,int)", "int seen(int,int,int,int,boolean)", "int forget()", "int likings(int)",
        "int ask(int)", "int bowls(int,int,int)", "long gale(int,int,int)", "int year(int,int,int)",
        "int image(int)", "int restore(int)", "int told(int)"};

    public static void main(String[] args) {
        Expect e = new Expect();
        face(e);
        newObject(e);
        e.end();
    }

    private static void face(Expect e) {
        e.holds("public and final", Modifier.isPublic(ToupeeWind.class.getModifiers())
            && Modifier.isFinal(ToupeeWind.class.getModifiers()));
        Set<String> found = new TreeSet<>();
        for (Method m : ToupeeWind.class.getDeclaredMethods()) {
            if (!Modifier.isPrivate(m.getModifiers())) {
                found.add(signature(m));
            }
        }
        e.holds("methods are " + found, found.equals(new TreeSet<>(Set.of(METHODS))));
        Set<String> constants = new TreeSet<>();
        for (Field f : ToupeeWind.class.getDeclaredFields()) {
            if (!Modifier.isPrivate(f.getModifiers())) {
                constants.add(f.getName());
                e.holds(f + " is public static final", Modifier.isPublic(f.getModifiers())
                    && Modifier.isStatic(f.getModifiers()) && Modifier.isFinal(f.getModifiers()));
            }
        }
        e.holds("constants are " + constants, constants.equals(
            new TreeSet<>(Set.of("NONE", "UNKNOWN", "OUTSIDE", "STATE", "FULL", "NO", "LOST"))));
        Constructor<?>[] made = ToupeeWind.class.getDeclaredConstructors();
        e.holds("one public constructor", made.length == 1 && Modifier.isPublic(made[0].getModifiers())
            && made[0].getParameterCount() == 0);
        e.due("NONE", ToupeeWind.NONE, -6);
        e.due("UNKNOWN", ToupeeWind.UNKNOWN, -1);
        e.due("OUTSIDE", ToupeeWind.OUTSIDE, -2);
        e.due("STATE", ToupeeWind.STATE, -3);
        e.due("FULL", ToupeeWind.FULL, -4);
        e.due("NO", ToupeeWind.NO, -5);
        e.due("LOST", ToupeeWind.LOST, -1000000000000000000L);
    }

    private static String signature(Method m) {
        StringBuilder text = new StringBuilder(m.getReturnType() + " " + m.getName() + "(");
        for (Class<?> type : m.getParameterTypes()) {
            text.append(text.charAt(text.length() - 1) == '(' ? "" : ",").append(type);
        }
        return text.append(')').toString();
    }

    private static void newObject(Expect e) {
        ToupeeWind x = new ToupeeWind();
        int[] all = {0, 0, 0, 1, 0, 0, 0, 0, 0};
        for (int what = 0; what < all.length; what++) {
            e.due("new: told(" + what + ")", x.told(what), all[what]);
        }
        for (int w = 0; w < 6; w++) {
            e.due("new: cell of " + w, x.told(10 + w), w);
            e.due("new: hours of " + w, x.told(20 + w), 0);
            e.due("new: owed by " + w, x.told(30 + w), 0);
            e.due("new: held by " + w, x.told(40 + w), -6);
            e.due("new: toupee of " + w, x.told(50 + w), -6);
            e.due("new: purse of " + w, x.told(60 + w), 222);
        }
        e.due("new: likes(1, 1, 1)", x.likes(1, 1, 1), 111);
        e.due("new: wind(0, 0, 1)", x.wind(0, 0, 1), 1);
        e.due("new: fault()", x.fault(), -6);
        e.due("new: likings(-1)", x.likings(-1), 64);
        e.due("new: restore(0)", x.restore(0), -3);
        e.due("new: restore(1)", x.restore(1), -3);
    }
}
