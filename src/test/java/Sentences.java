import java.lang.reflect.InvocationTargetException;
import java.lang.reflect.Method;
import java.lang.reflect.Modifier;
import java.util.Arrays;
import java.util.Comparator;

/** Tests that are methods with a Sentence each; a wrong answer is told with its sentence. */
abstract class Sentences extends Check {
    static final Class<IllegalArgumentException> ARGUMENT = IllegalArgumentException.class;
    static final Class<IllegalStateException> STATE = IllegalStateException.class;
    static final Class<IndexOutOfBoundsException> INDEX = IndexOutOfBoundsException.class;

    static final int NOTHING = 0;
    static final int READY = 1;
    static final int WAITING = 2;
    static final int ENDED = 3;
    static final int DIVIDED = 4;
    static final int OUTSIDE = 5;
    static final int DEEP = 6;

    /** What shown does not have stands so in a picture. */
    private static final int THROWS = Integer.MIN_VALUE;

    final void runAll() {
        Method[] methods = getClass().getDeclaredMethods();
        Arrays.sort(methods, Comparator.comparing(Method::getName));
        for (Method method : methods) {
            Sentence sentence = method.getAnnotation(Sentence.class);
            if (sentence != null) {
                under("promise " + sentence.promise() + ", \"" + sentence.says() + "\": ");
                runOne(method);
            } else if (!Modifier.isPrivate(method.getModifiers()) && !Modifier.isStatic(method.getModifiers())) {
                // Otherwise a test whose sentence was forgotten would never run.
                due("sentence of " + method.getName(), 0, 1);
            }
        }
        under("");
        end();
    }

    private void runOne(Method method) {
        int before = looked();
        try {
            method.setAccessible(true);
            method.invoke(this);
        } catch (InvocationTargetException e) {
            due(method.getName() + " ended with " + e.getCause(), 0, 1);
        } catch (IllegalAccessException e) {
            due(method.getName() + " can't be run: " + e, 0, 1);
        }
        if (looked() == before) {
            due("answers that " + method.getName() + " looked at", 0, 1);
        }
    }

    /** An object in the state, with numbers in all that can be seen but the text. */
    static ShortMill inState(int state) {
        String[] last = {"", "print 8 ; print 9 ;", "g2 = 30 + read ;", "", "g2 = 1 / 0 ;", "g2 = a0 [ 8 ] ;", "f1 ( ) ;"};
        ShortMill mill = new ShortMill();
        int answer = compiled(mill, "fn f0 0 { g1 = 5 ; a1 [ 2 ] = 6 ; print 7 ; f1 ( ) ; } fn f1 0 { l3 = 4 ; "
            + last[state] + " }");
        if (answer != 2) {
            throw new IllegalStateException("the text of state " + state + " does not compile: " + answer);
        }
        if (state != NOTHING) {
            mill.start();
            mill.run(state == READY ? 5 : 200);
        }
        mill.key(-4);
        mill.key(9);
        return mill;
    }

    /** All that can be seen of an object, but for how long its text is. */
    static int[] picture(ShortMill mill) {
        int[] seen = new int[6 + 8 + 4 * 8 + 33];
        int at = 0;
        for (int what : new int[] {0, 2, 3, 4, 5, 6}) {
            seen[at++] = mill.about(what);
        }
        for (int k = 0; k < 8; k++) {
            seen[at++] = mill.global(k);
            for (int a = 0; a < 4; a++) {
                seen[at++] = mill.array(a, k);
            }
        }
        for (int i = 0; i < 33; i++) {
            try {
                seen[at] = mill.shown(i);
            } catch (IndexOutOfBoundsException e) {
                seen[at] = THROWS;
            }
            at++;
        }
        return seen;
    }

    final void dueSame(String what, int[] got, int[] want) {
        due(what + ": " + Arrays.toString(got) + " instead of " + Arrays.toString(want),
            Arrays.equals(got, want) ? 1 : 0, 1);
    }

    /** State, functions, begun, shown, keys and running, as about tells them. */
    final void dueCounts(String what, ShortMill mill, int... want) {
        int[] whats = {0, 2, 3, 4, 5, 6};
        for (int k = 0; k < whats.length; k++) {
            due(what + ": about(" + whats[k] + ")", mill.about(whats[k]), want[k]);
        }
    }

    final void dueNoVariables(String what, ShortMill mill) {
        for (int k = 0; k < 8; k++) {
            due(what + ": global(" + k + ")", mill.global(k), 0);
            for (int a = 0; a < 4; a++) {
                due(what + ": array(" + a + ", " + k + ")", mill.array(a, k), 0);
            }
        }
    }

    /** The numbers shown, the first of them first. */
    final void dueShown(String what, ShortMill mill, int... want) {
        due(what + ": numbers shown", mill.about(4), want.length);
        for (int k = 0; k < want.length && k < mill.about(4); k++) {
            due(what + ": number " + k, mill.shown(mill.about(4) - 1 - k), want[k]);
        }
    }

    /** A refused call: the exception, and that nothing has changed by it. */
    final void dueRefused(String what, Class<? extends RuntimeException> want, ShortMill mill, Runnable call) {
        dueUnchanged(what, mill, () -> dueThrow(what, want, call));
    }

    /**
     * That nothing has changed by the calls. Two pictures are 158 calls, and an object has 512 that
     * something is promised of: many refused calls of one object stand between the same two.
     */
    final void dueUnchanged(String what, ShortMill mill, Runnable calls) {
        int length = mill.about(1);
        int[] before = picture(mill);
        calls.run();
        due(what + ": how long the text is", mill.about(1), length);
        dueSame(what + ": changed", picture(mill), before);
    }
}
