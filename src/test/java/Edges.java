import java.lang.reflect.InvocationTargetException;
import java.lang.reflect.Method;
import java.util.Arrays;
import java.util.Comparator;

/**
 * Runs each test of a class that a sentence of the document stands over, and tells with each wrong
 * answer the sentence that does not hold.
 *
 * <p>What an object is like is looked at on new objects, one for each look: so no object is used for
 * more than the 512 calls that the document speaks of, and a look may be a call that changes it.
 */
final class Edges {
    /** Makes a new object, always in the same state. */
    interface Scene {
        ChangeSync set();
    }

    interface Call {
        long on(ChangeSync x);
    }

    static final Class<IndexOutOfBoundsException> NO_SUCH = IndexOutOfBoundsException.class;
    static final Class<IllegalArgumentException> BAD_ARGUMENT = IllegalArgumentException.class;
    static final Class<IllegalStateException> BAD_STATE = IllegalStateException.class;

    private final Checks checks = new Checks();
    private String place = "";

    static void run(Class<?> tests) {
        Edges edges = new Edges();
        Method[] methods = tests.getDeclaredMethods();
        Arrays.sort(methods, Comparator.comparing(Method::getName));
        int count = 0;
        for (Method method : methods) {
            if (method.isAnnotationPresent(Says.class)) {
                edges.runOne(method);
                count++;
            }
        }
        System.out.println(count + " boundaries");
        edges.checks.end();
    }

    private void runOne(Method test) {
        Says says = test.getAnnotation(Says.class);
        place = test.getName() + " (" + says.in() + ": \"" + says.value() + "\"): ";
        int before = checks.done();
        try {
            test.invoke(null, this);
        } catch (InvocationTargetException e) {
            due("the test", "threw " + e.getCause(), "to end");
        } catch (IllegalAccessException e) {
            due("the test", "can't be run", "to be run");
        }
        if (checks.done() == before) {
            due("the test", "checks nothing", "to check something");
        }
    }

    // ---- what is due

    void due(String what, long got, long want) {
        checks.due(place + what, got, want);
    }

    void due(String what, boolean got, boolean want) {
        checks.due(place + what, got, want);
    }

    void due(String what, String got, String want) {
        checks.due(place + what, got, want);
    }

    /** The call throws exactly this class, and changes nothing. */
    void refused(String what, Scene scene, Class<? extends RuntimeException> want, Call call) {
        due(what, outcome(call, scene.set()), "throws " + want.getSimpleName());
        changesNothing(what, scene, call);
    }

    /** The call answers false, and changes nothing. */
    void saysFalse(String what, Scene scene, Call call) {
        due(what, outcome(call, scene.set()), "0");
        changesNothing(what, scene, call);
    }

    void changesNothing(String what, Scene scene, Call call) {
        for (Looks.Look look : Looks.at(scene)) {
            ChangeSync x = scene.set();
            outcome(call, x);
            due(what + ", then " + look.name(), outcome(look.call(), x), outcome(look.call(), scene.set()));
        }
    }

    private static String outcome(Call call, ChangeSync x) {
        return Checks.outcome(() -> call.on(x));
    }

    /** For calls that answer a boolean. */
    static long number(boolean answer) {
        return answer ? 1 : 0;
    }

    /** Numbers that are not 0 .. size - 1: next to them, and as far from them as there are. */
    static int[] notBelow(int size) {
        return new int[] {Integer.MIN_VALUE, Integer.MIN_VALUE + 1, -256, -2, -1,
            size, size + 1, size + 256, Integer.MAX_VALUE - 1, Integer.MAX_VALUE};
    }
}
