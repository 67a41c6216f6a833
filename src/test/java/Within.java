import java.lang.reflect.InvocationTargetException;
import java.lang.reflect.Method;

/** Runs a test's main method, and ends it as failed when it takes too long: a call may not fail to end. */
public final class Within {
    private Within() {
    }

    public static void main(String[] args) throws ReflectiveOperationException {
        endAfter(Integer.parseInt(args[0]), args[1]);
        Method test = Class.forName(args[1]).getMethod("main", String[].class);
        try {
            test.invoke(null, (Object) new String[0]);
        } catch (InvocationTargetException e) {
            e.getCause().printStackTrace();
            System.exit(1);
        }
    }

    private static void endAfter(int seconds, String name) {
        Thread watch = new Thread(() -> {
            try {
                Thread.sleep(1000L * seconds);
            } catch (InterruptedException e) {
                return;
            }
            System.out.println(name + " has not ended within " + seconds + " seconds");
            Runtime.getRuntime().halt(1);
        });
        watch.setDaemon(true);
        watch.start();
    }
}
