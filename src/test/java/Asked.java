import java.lang.reflect.InvocationTargetException;
import java.lang.reflect.Method;
import java.util.List;
import java.util.Set;
import java.util.TreeSet;

/**
 * What one method of the face answers, learnt by asking it: on many plates, each made
 * anew for each call, and with arguments within and beyond every range.
 */
final class Asked {
    private static final int[] ARGUMENTS = {
        Integer.MIN_VALUE, -6, -5, -4, -3, -2, -1, 0, 1, 2, 5, 6, 9, 10, 11, 12, 63, 99, 100, 1023, 1024, 4095, 4096,
        Integer.MAX_VALUE,
    };

    final Set<Integer> codes = new TreeSet<>();
    long least = Long.MAX_VALUE;
    long greatest = Long.MIN_VALUE;
    boolean undoable = false;
    private final Method method;

    Asked(Method method, List<Recipe> plates) {
        this.method = method;
        for (Recipe plate : plates) {
            for (int a : method.getParameterCount() > 0 ? ARGUMENTS : new int[1]) {
                for (int b : method.getParameterCount() > 1 ? ARGUMENTS : new int[1]) {
                    ask(plate.make(), a, b);
                    askForUndo(Plates.withNothingSaved(plate.make()), a, b);
                }
            }
        }
    }

    /** Calls a method with as many of the arguments as it takes. */
    static long answer(Method method, EtchedPlate x, int... arguments) {
        Object[] taken = new Object[method.getParameterCount()];
        for (int k = 0; k < taken.length; k++) {
            taken[k] = arguments[k];
        }
        try {
            return ((Number) method.invoke(x, taken)).longValue();
        } catch (IllegalAccessException | InvocationTargetException e) {
            throw new IllegalStateException(method.getName() + " threw", e);
        }
    }

    /** A hash may be any number, so none of them is a code. */
    private boolean isCode(long answer) {
        return answer >= EtchedPlate.NOTHING_SAVED && answer <= EtchedPlate.NONE && method.getReturnType() == int.class;
    }

    private void ask(EtchedPlate x, int a, int b) {
        long answer = answer(method, x, a, b);
        if (isCode(answer)) {
            codes.add((int) answer);
        } else {
            least = Math.min(least, answer);
            greatest = Math.max(greatest, answer);
        }
    }

    private void askForUndo(EtchedPlate x, int a, int b) {
        if (!isCode(answer(method, x, a, b))) {
            undoable |= x.undo() == 0;
        }
    }
}
