/** Counts answers that are not as due, and ends a test with exit code 1 if there was one. */
final class Checks {
    private final String test;
    private int done = 0;
    private int wrong = 0;

    Checks(String test) {
        this.test = test;
    }

    void due(String call, long got, long want) {
        done++;
        if (got != want) {
            wrong++;
            System.out.println(test + ": " + call + " answered " + got + ", due is " + want);
        }
    }

    void due(String call, boolean got, boolean want) {
        due(call, got ? 1 : 0, want ? 1 : 0);
    }

    void holds(String what, boolean holds) {
        done++;
        if (!holds) {
            wrong++;
            System.out.println(test + ": does not hold: " + what);
        }
    }

    void close() {
        System.out.println(test + ": " + done + " answers, " + wrong + " not as due");
        if (wrong != 0 || done == 0) {
            System.exit(1);
        }
    }

    /** Puts a text on an empty TAPE. */
    static void type(DroveRoads road, String text) {
        for (int from = 0; from < text.length(); from += 20) {
            road.feed(four(text, from), four(text, from + 4), four(text, from + 8), four(text, from + 12),
                four(text, from + 16));
        }
        road.end(text.length());
    }

    static int four(String text, int from) {
        int four = 0;
        for (int k = from; k < from + 4; k++) {
            four = four << 8 | (k < text.length() ? text.charAt(k) & 255 : 0);
        }
        return four;
    }

    static int orders(DroveRoads road, int herd, String text) {
        type(road, text);
        return road.orders(herd);
    }
}
