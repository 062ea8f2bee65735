/** Counts what is as it should be, and tells what is not. */
final class Checks {
    private static final int MOST_SECONDS = 300;
    private static int right = 0;
    private static int wrong = 0;
    private static String where = "";

    static {
        watch();
    }

    private Checks() {
    }

    /** A call that doesn't end is to fail a test, not to hold it up for good. */
    static void watch() {
        Thread watcher = new Thread(() -> {
            try {
                Thread.sleep(MOST_SECONDS * 1000L);
            } catch (InterruptedException e) {
                return;
            }
            System.out.println(where + ": not at its end after " + MOST_SECONDS + " seconds");
            System.out.flush();
            Runtime.getRuntime().halt(1);
        });
        watcher.setDaemon(true);
        watcher.start();
    }

    static void at(String place) {
        where = place;
    }

    static void due(String call, long want, long got) {
        if (want == got) {
            right++;
        } else {
            wrong++;
            System.out.println(where + ": " + call + " answered " + got + ", due is " + want);
        }
    }

    static void yes(String call, boolean got) {
        due(call, 1, got ? 1 : 0);
    }

    static void no(String call, boolean got) {
        due(call, 0, got ? 1 : 0);
    }

    /** Fails too where nothing was checked. */
    static void end() {
        System.out.println(right + " answers as due, " + wrong + " not");
        if (wrong > 0 || right == 0) System.exit(1);
    }

    /** Puts a text on an empty tape: fed in twenties, cut to its length. */
    static void put(ThanksByPost x, String text) {
        x.end(0);
        StringBuilder padded = new StringBuilder(text);
        while (padded.length() % 20 != 0) padded.append(' ');
        for (int i = 0; i < padded.length(); i += 20) {
            int[] five = new int[5];
            for (int k = 0; k < 20; k++) five[k / 4] = five[k / 4] << 8 | padded.charAt(i + k) & 255;
            x.feed(five[0], five[1], five[2], five[3], five[4]);
        }
        x.end(text.length());
    }

    static int text(ThanksByPost x, String text) {
        put(x, text);
        return x.text();
    }

    /** A text that rules from now on. */
    static void rule(ThanksByPost x, String text) {
        int number = text(x, text);
        yes("by(" + text + ")", number >= 0 && x.by(number));
    }
}
