import java.lang.reflect.InvocationTargetException;

/** Runs the main method of the class that is named, and ends it as failed if it does not come to an end by itself. */
public final class Limited {
    // Far more than any test needs, also on a slow machine.
    private static final int SECONDS = 300;

    public static void main(String[] args) throws ReflectiveOperationException {
        Thread watch = new Thread(Limited::endLate);
        watch.setDaemon(true);
        watch.start();
        try {
            Class.forName(args[0]).getMethod("main", String[].class).invoke(null, (Object) new String[0]);
        } catch (InvocationTargetException thrown) {
            thrown.getCause().printStackTrace();
            System.exit(1);
        }
    }

    private static void endLate() {
        try {
            Thread.sleep(SECONDS * 1000L);
        } catch (InterruptedException nobodyInterrupts) {
            return;
        }
        System.out.println("no end within " + SECONDS + " seconds");
        System.out.flush();
        Runtime.getRuntime().halt(1);
    }
}
