import java.lang.reflect.Method;

/** Runs the main method of a test and fails it when it does not end: a call must, for any arguments. */
public final class Limited {
    public static void main(String[] args) throws Exception {
        long seconds = Long.parseLong(args[0]);
        String test = args[1];
        Thread watch = new Thread(() -> endAfter(seconds, test));
        watch.setDaemon(true);
        watch.start();
        Method main = Class.forName(test).getMethod("main", String[].class);
        main.setAccessible(true);
        main.invoke(null, (Object) new String[0]);
    }

    private static void endAfter(long seconds, String test) {
        try {
            Thread.sleep(seconds * 1000);
        } catch (InterruptedException stopped) {
            return;
        }
        System.out.println(test + " has not ended after " + seconds + " seconds");
        System.out.flush();
        Runtime.getRuntime().halt(1);
    }
}
