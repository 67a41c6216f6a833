import java.lang.reflect.InvocationTargetException;
import java.lang.reflect.Method;
import java.lang.reflect.Modifier;

/** Runs tests; counts and prints answers that are not the ones that are due. */
final class Check {
    interface Call {
        long answer();
    }

    private static int wrong = 0;
    private static String test = "";

    private Check() {
    }

    /** Every static method without parameters is a test, so that none can be left off a list. */
    static void runAllOf(Class<?> tests) {
        int number = 0;
        for (Method m : tests.getDeclaredMethods()) {
            if (Modifier.isStatic(m.getModifiers()) && m.getParameterCount() == 0 && !m.isSynthetic()
                    && m.getReturnType() == void.class) {
                number++;
                runOne(m);
            }
        }
        test = "";
        System.out.println(number + " tests");
        end();
    }

    private static void runOne(Method m) {
        test = m.getName() + ": ";
        try {
            m.setAccessible(true);
            m.invoke(null);
        } catch (InvocationTargetException e) {
            tell("threw " + e.getCause());
        } catch (IllegalAccessException e) {
            tell("could not be run: " + e);
        }
    }

    static void is(String what, long got, long due) {
        if (got != due) {
            tell(what + " answered " + got + ", due is " + due);
        }
    }

    static void is(String what, boolean got, boolean due) {
        is(what, got ? 1 : 0, due ? 1 : 0);
    }

    static void same(String what, String got, String due) {
        if (!got.equals(due)) {
            tell(what + " is\n  " + got + "\ndue is\n  " + due);
        }
    }

    static void fails(String what, Class<? extends RuntimeException> due, Call call) {
        try {
            tell(what + " answered " + call.answer() + ", due is " + due.getSimpleName());
        } catch (RuntimeException e) {
            if (e.getClass() != due) {
                tell(what + " threw " + e + ", due is " + due.getSimpleName());
            }
        }
    }

    static String outcome(Call call) {
        try {
            return Long.toString(call.answer());
        } catch (RuntimeException e) {
            return "throws." + e.getClass().getSimpleName();
        }
    }

    static void tell(String text) {
        wrong++;
        System.out.println(test + text);
    }

    static void end() {
        System.exit(wrong == 0 ? 0 : 1);
    }
}
