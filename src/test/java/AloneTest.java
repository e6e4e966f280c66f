/** Promises 15 to 17: the best way of a herd alone, against a look at every row of acts. */
public final class AloneTest {
    private static final Checks CHECKS = new Checks("AloneTest");
    private static final int NO_WAY = -100000;

    public static void main(String[] args) {
        wrongAsks();
        shortWay();
        everyRow();
        soreHerds();
        longDays();
        CHECKS.close();
    }

    private static void wrongAsks() {
        DroveRoads x = new DroveRoads();
        x.herd(1, 100, 1, 50);
        int[][] wrong = {{-1, 5}, {1, 5}, {0, 0}, {0, -1}, {0, 61}, {Integer.MIN_VALUE, 5},
            {0, Integer.MAX_VALUE}, {0, Integer.MIN_VALUE}};
        for (int[] w : wrong) {
            CHECKS.due("gain", x.gain(w[0], w[1]), NO_WAY);
            CHECKS.due("length", x.length(w[0], w[1]), -1);
            CHECKS.due("act", x.act(w[0], w[1], 0), -1);
        }
        for (int k : new int[] {-1, 5, 6, Integer.MIN_VALUE, Integer.MAX_VALUE}) {
            CHECKS.due("act(0, 5, " + k + ")", x.act(0, 5, k), -1);
        }
        CHECKS.due("a herd that has not set out", x.gain(0, 60), 59 * 3);
        x.days(51);
        CHECKS.due("gain without heads", x.gain(0, 5), NO_WAY);
        CHECKS.due("length without heads", x.length(0, 5), -1);
        CHECKS.due("act without heads", x.act(0, 5, 0), -1);
    }

    private static void shortWay() {
        DroveRoads x = new DroveRoads();
        x.first(9);
        x.stance(30);
        x.herd(1, 100, 1, 0);
        CHECKS.due("gain(0, 1)", x.gain(0, 1), NO_WAY);
        CHECKS.due("gain(0, 2)", x.gain(0, 2), 1 - 1 - 6);
        CHECKS.due("gain(0, 4)", x.gain(0, 4), 0);
        CHECKS.due("length(0, 4)", x.length(0, 4), 4);
        int[] acts = {1, 0, 0, 1};
        for (int k = 0; k < 4; k++) {
            CHECKS.due("act(0, 4, " + k + ")", x.act(0, 4, k), acts[k]);
        }
    }

    private static void everyRow() {
        int[][] roads = {{1}, {30}, {30, 30}, {30, 30, 1}, {30, 30, 30}, {30, 30, 30, 10}, {5, 9, 10, 14, 15},
            {20, 25, 30, 20}, {29, 28, 27, 26}, {4, 30, 30, 4, 30}};
        for (int[] miles : roads) {
            DroveRoads x = laid(miles);
            x.herd(3, 300, 1, 0);
            for (int d = 1; d <= 11; d++) {
                compare(x, miles, 0, 0, d);
            }
        }
    }

    private static void soreHerds() {
        int[] miles = {30, 30, 30, 25, 11, 30, 30, 20, 6};
        DroveRoads x = laid(miles);
        x.herd(500, 600, 1, 0);
        for (int day = 0; day < 9; day++) {
            for (int d = 1; d <= 14; d++) {
                compare(x, miles, x.of(0, 3), x.of(0, 2), d);
            }
            x.days(1);
        }
    }

    private static void longDays() {
        int[] miles = {30, 30, 30, 30, 30, 30, 30, 30, 30};
        DroveRoads x = laid(miles);
        x.herd(500, 600, 1, 0);
        // Two walks, then two rests ahead of each of seven walks.
        CHECKS.due("one day too few", x.gain(0, 22), NO_WAY);
        CHECKS.due("just enough", x.gain(0, 23), 14 * 3 + 8 - 9 * 6);
        CHECKS.due("sixty days", x.gain(0, 60), 51 * 3 + 8 - 9 * 6);
        CHECKS.due("length(0, 60)", x.length(0, 60), 60);
        int walks = 0;
        for (int k = 0; k < 60; k++) {
            int act = x.act(0, 60, k);
            boolean due = k < 2 || k == 59 || k < 20 && (k - 1) % 3 == 0 && k > 1;
            CHECKS.due("act(0, 60, " + k + ")", act, due ? 1 : 0);
            walks += act;
        }
        CHECKS.due("walks", walks, 9);
    }

    private static DroveRoads laid(int[] miles) {
        DroveRoads x = new DroveRoads();
        x.first(miles[0]);
        for (int k = 1; k < miles.length; k++) {
            x.stance(miles[k]);
        }
        for (int k = 0; k < miles.length; k++) {
            x.grass(k, 100000, 1000, 100000);
        }
        return x;
    }

    /** Rows are looked at by length, in the order of their acts with walk first, so only a greater gain takes over. */
    private static void compare(DroveRoads x, int[] miles, int stance, int sore, int d) {
        int best = NO_WAY;
        int bestDays = -1;
        int bestRow = 0;
        for (int days = 1; days <= d; days++) {
            for (int row = 0; row < 1 << days; row++) {
                int gain = gainOf(miles, stance, sore, days, row);
                if (gain > best) {
                    best = gain;
                    bestDays = days;
                    bestRow = row;
                }
            }
        }
        CHECKS.due("gain(0, " + d + ")", x.gain(0, d), best);
        CHECKS.due("length(0, " + d + ")", x.length(0, d), bestDays);
        for (int k = 0; k <= d; k++) {
            int want = k < bestDays ? 1 - (bestRow >> bestDays - 1 - k & 1) : -1;
            CHECKS.due("act(0, " + d + ", " + k + ")", x.act(0, d, k), want);
        }
    }

    /** A bit of the row is 1 for rest, the highest one for the first day. */
    private static int gainOf(int[] miles, int stance, int sore, int days, int row) {
        int gain = 0;
        for (int day = 0; day < days; day++) {
            if (stance == miles.length) {
                return NO_WAY;
            }
            if ((row >> days - 1 - day & 1) == 1) {
                sore = Math.max(0, sore - 15);
                gain += 3;
                continue;
            }
            sore += miles[stance];
            if (sore > 60) {
                return NO_WAY;
            }
            gain += (stance + 1 == miles.length ? 0 : 1) - miles[stance] / 5;
            stance++;
        }
        return stance == miles.length ? gain : NO_WAY;
    }
}
