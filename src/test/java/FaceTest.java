import java.lang.reflect.Constructor;
import java.lang.reflect.Field;
import java.lang.reflect.Method;
import java.lang.reflect.Modifier;
import java.util.Set;
import java.util.TreeSet;

/** The public face is the document's, and nothing more is to be seen from outside. */
public final class FaceTest {
    private static final String[] FACE = {
        "OUT_OF_RANGE=-2", "IMPOSSIBLE=-3", "FULL=-4", "NOTHING_SAVED=-5", "NONE=-1",
        "EtchedPlate()",
        "int draw()", "int setStrength(int)", "int dip(int)", "int varnish(int)", "int clean()",
        "int burnish(int,int)", "int pull()", "int lines()", "int depth(int)", "int varnished()",
        "int meanDepthBits()", "int prints()", "int stateOf(int)", "int tone(int,int)",
        "int mayPrecede(int,int)", "int orders(int)", "int bestState()", "int setTarget(int,int)",
        "int dips()", "int dipMinutes(int)", "int dipVarnish(int)", "int obstacles()", "int undo()",
        "int errorCount(int)", "long digest()",
    };

    private static boolean hidden(int modifiers) {
        return Modifier.isPrivate(modifiers);
    }

    private static String parameters(Class<?>[] types) {
        StringBuilder text = new StringBuilder("(");
        for (int k = 0; k < types.length; k++) {
            text.append(k == 0 ? "" : ",").append(types[k].getName());
        }
        return text.append(")").toString();
    }

    private static Set<String> seen(Check check) throws IllegalAccessException {
        Set<String> seen = new TreeSet<>();
        for (Field field : EtchedPlate.class.getDeclaredFields()) {
            if (!hidden(field.getModifiers())) {
                check.holds(field.getName() + " is a public constant",
                    field.getModifiers() == (Modifier.PUBLIC | Modifier.STATIC | Modifier.FINAL));
                seen.add(field.getName() + "=" + field.getInt(null));
            } else {
                check.holds(field.getName() + " is no static state", !Modifier.isStatic(field.getModifiers())
                    || Modifier.isFinal(field.getModifiers()));
            }
        }
        for (Constructor<?> made : EtchedPlate.class.getDeclaredConstructors()) {
            if (!hidden(made.getModifiers())) {
                check.due("the constructor's modifiers", made.getModifiers(), Modifier.PUBLIC);
                seen.add("EtchedPlate" + parameters(made.getParameterTypes()));
            }
        }
        Set<String> open = new TreeSet<>();
        for (Method method : EtchedPlate.class.getDeclaredMethods()) {
            if (!hidden(method.getModifiers())) {
                check.due("modifiers of " + method.getName(), method.getModifiers(), Modifier.PUBLIC);
                seen.add(method.getReturnType().getName() + " " + method.getName() + parameters(method.getParameterTypes()));
                open.add(method.getName());
            }
        }
        for (Method method : EtchedPlate.class.getDeclaredMethods()) {
            check.holds("no private method is called " + method.getName(),
                !hidden(method.getModifiers()) || !open.contains(method.getName()));
        }
        return seen;
    }

    public static void main(String[] args) throws IllegalAccessException {
        Check check = new Check("FaceTest");
        check.part("the public face");
        check.due("the class's modifiers", EtchedPlate.class.getModifiers(), Modifier.PUBLIC | Modifier.FINAL);
        for (Class<?> inside : EtchedPlate.class.getDeclaredClasses()) {
            check.holds(inside.getName() + " is static and not public", Modifier.isStatic(inside.getModifiers())
                && !Modifier.isPublic(inside.getModifiers()) && !Modifier.isProtected(inside.getModifiers()));
        }
        Set<String> seen = seen(check);
        for (String member : FACE) {
            check.holds("the class has " + member, seen.remove(member));
        }
        for (String member : seen) {
            check.holds("the document has " + member, false);
        }
        check.end();
    }
}
