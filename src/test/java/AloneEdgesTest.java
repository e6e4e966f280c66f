/** The boundary cases of a herd alone, part 4 of the document, and of promises 15 to 17. */
public final class AloneEdgesTest {
    private static final Checks CHECKS = new Checks("AloneEdgesTest");
    private static final int LEAST = Checks.LEAST;
    private static final int GREATEST = Checks.GREATEST;
    private static final int NO_WAY = -100000;

    public static void main(String[] args) {
        grassEnough();
        soreAsItIs();
        soreAboveSixty();
        soreAtLeast();
        endsAtTheFair();
        daysAtMost();
        noWalkAboveSixty();
        changesOfWeight();
        gainHasNoBound();
        greatestGain();
        walkAheadOfRest();
        gainAsked();
        noWay();
        lengthAsked();
        actAsked();
        asksChangeNothing();
        CHECKS.close();
    }

    private static DroveRoads withHerd(int... miles) {
        DroveRoads x = Scenes.green(miles);
        x.herd(500, 300, 1, 0);
        return x;
    }

    /** BEST of at most d days as a row of 1 for walk and 0 for rest. */
    private static void best(DroveRoads x, int d, int gain, String acts) {
        CHECKS.due("gain(0, " + d + ")", x.gain(0, d), gain);
        CHECKS.due("length(0, " + d + ")", x.length(0, d), acts.length());
        for (int k = 0; k < acts.length(); k++) {
            CHECKS.due("act(0, " + d + ", " + k + ")", x.act(0, d, k), acts.charAt(k) - '0');
        }
        CHECKS.due("act(0, " + d + ", " + acts.length() + ")", x.act(0, d, acts.length()), -1);
    }

    private static void none(DroveRoads x, int herd, int d) {
        String asked = "(" + herd + ", " + d;
        CHECKS.due("gain" + asked + ")", x.gain(herd, d), NO_WAY);
        CHECKS.due("length" + asked + ")", x.length(herd, d), -1);
        CHECKS.due("act" + asked + ", 0)", x.act(herd, d, 0), -1);
    }

    private static void grassEnough() {
        CHECKS.says("ALONE is a HERD on the road with GRASS enough each day");
        DroveRoads x = Scenes.bare(10, 10);
        x.herd(500, 300, 20, 0);
        x.herd(500, 300, 20, 0);
        best(x, 4, 3 + 3 + 1 - 2 - 2, "1001");
        CHECKS.due("the other herd", x.gain(1, 4), 3);
    }

    private static void soreAsItIs() {
        CHECKS.says("from its STANCE, SORE as it is now");
        DroveRoads x = withHerd(30, 30, 30, 1);
        best(x, 7, 3 * 3 + 3 - 3 * 6, "1100101");
        none(x, 0, 6);
        x.days(1);
        best(x, 6, 3 * 3 + 2 - 2 * 6, "100101");
        none(x, 0, 5);
        x.days(1);
        best(x, 5, 3 * 3 + 1 - 6, "00101");
        none(x, 0, 4);
        DroveRoads late = Scenes.bare(10);
        late.herd(1, 100, 1, 10000);
        best(late, 2, 3 - 2, "01");
    }

    private static void soreAboveSixty() {
        CHECKS.says("in which no walk leaves it with SORE above 60");
        DroveRoads x = withHerd(30, 30, 30, 1, 14);
        x.days(3);
        CHECKS.due("sore", x.of(0, 2), 90);
        // 75, 60 and 45 by rests, then 46 and 60.
        none(x, 0, 4);
        best(x, 5, 3 * 3 + 1 - 2, "00011");
        DroveRoads y = withHerd(30, 30, 30, 1, 15);
        y.days(3);
        none(y, 0, 5);
        best(y, 6, 4 * 3 + 1 - 3, "000101");
    }

    private static void soreAtLeast() {
        CHECKS.says("rest: SORE 15 less (0 at least)");
        DroveRoads x = withHerd(1, 30, 30, 30);
        x.days(1);
        CHECKS.due("sore", x.of(0, 2), 1);
        // No rest makes up ahead of time: 31, then 61 is too much.
        best(x, 6, 3 * 3 + 2 - 18, "101001");
        none(x, 0, 5);
    }

    private static void endsAtTheFair() {
        CHECKS.says("A WAY is a row of such acts that ends as it comes to THE FAIR");
        DroveRoads x = withHerd(1);
        best(x, 1, 0, "1");
        best(x, 2, 3, "01");
        best(x, 3, 6, "001");
        CHECKS.due("no act behind the fair", x.act(0, 3, 3), -1);
    }

    private static void daysAtMost() {
        CHECKS.says("of D days at most (1 .. 60)");
        DroveRoads x = withHerd(1);
        CHECKS.due("gain(0, 59)", x.gain(0, 59), 58 * 3);
        CHECKS.due("gain(0, 60)", x.gain(0, 60), 59 * 3);
        CHECKS.due("length(0, 60)", x.length(0, 60), 60);
        CHECKS.due("act(0, 60, 58)", x.act(0, 60, 58), 0);
        CHECKS.due("act(0, 60, 59)", x.act(0, 60, 59), 1);
        CHECKS.due("act(0, 60, 60)", x.act(0, 60, 60), -1);
        for (int d : new int[] {0, -1, 61, LEAST, GREATEST}) {
            none(x, 0, d);
        }
        DroveRoads y = withHerd(1, 1, 1, 1, 1, 1, 1, 1, 1);
        none(y, 0, 8);
        best(y, 9, 8, "111111111");
        best(y, 10, 11, "1111111101");
    }

    private static void noWalkAboveSixty() {
        CHECKS.says("in which no walk leaves it with SORE above 60");
        DroveRoads sixty = withHerd(30, 30);
        best(sixty, 2, 1 - 12, "11");
        DroveRoads more = withHerd(30, 30, 1);
        none(more, 0, 3);
        best(more, 4, 3 + 2 - 12, "1101");
        DroveRoads middle = withHerd(30, 29, 1, 1, 1);
        none(middle, 0, 5);
        best(middle, 6, 3 + 4 - 11, "111011");
        DroveRoads hard = withHerd(30, 30, 30, 30, 30, 30, 30, 30, 30);
        none(hard, 0, 22);
        best(hard, 23, 14 * 3 + 8 - 54, "11001001001001001001001");
    }

    private static void changesOfWeight() {
        CHECKS.says("rest 3; walk 1 less MILES / 5 (cut); of the walk that comes to THE FAIR less MILES / 5 alone.");
        int[][] miles = {{1, 0}, {4, 0}, {5, 1}, {9, 1}, {10, 2}, {29, 5}, {30, 6}};
        for (int[] m : miles) {
            best(withHerd(m[0]), 1, -m[1], "1");
            best(withHerd(m[0], 4), 2, 1 - m[1], "11");
            best(withHerd(4, m[0]), 2, 1 - m[1], "11");
            best(withHerd(4, m[0]), 3, 3 + 1 - m[1], "101");
        }
        // Each stage is cut by itself.
        best(withHerd(4, 4, 4, 4), 4, 3, "1111");
    }

    private static void gainHasNoBound() {
        CHECKS.says("Its GAIN is the sum of changes of WEIGHT");
        DroveRoads heavy = Scenes.green(1);
        heavy.herd(1, 600, 1, 0);
        Checks.orders(heavy, 0, "when 1 do rest;");
        heavy.days(40);
        CHECKS.due("weight at most", heavy.of(0, 1), 700);
        CHECKS.due("gain(0, 60)", heavy.gain(0, 60), 59 * 3);
        DroveRoads light = Scenes.bare(30);
        light.herd(500, 100, 1, 0);
        Checks.orders(light, 0, "when 1 do rest;");
        light.days(26);
        CHECKS.due("weight at least", light.of(0, 1), 0);
        CHECKS.due("gain(0, 1)", light.gain(0, 1), -6);
    }

    /** Each rest is 3 more and all WAYS have the same walks, so that no two of unlike days have a like GAIN. */
    private static void greatestGain() {
        CHECKS.says("BEST is the WAY with the greatest GAIN; of like ones the one of fewest days");
        DroveRoads x = withHerd(10, 20);
        for (int d = 2; d <= 60; d++) {
            CHECKS.due("gain(0, " + d + ")", x.gain(0, d), 3 * (d - 2) + 1 - 6);
            CHECKS.due("length(0, " + d + ")", x.length(0, d), d);
        }
    }

    private static void walkAheadOfRest() {
        CHECKS.says("of these the first, walk ahead of rest, day by day");
        best(withHerd(1, 1, 1), 6, 9 + 2, "110001");
        best(withHerd(30, 30, 30), 5, 6 + 2 - 18, "11001");
        best(withHerd(30, 30, 30), 6, 9 + 2 - 18, "110001");
        best(withHerd(30, 30, 30, 1), 7, 9 + 3 - 18, "1100101");
        best(withHerd(20, 25, 30, 20), 7, 9 + 3 - 4 - 5 - 6 - 4, "1101001");
    }

    private static void gainAsked() {
        CHECKS.says("-100000 if there is no WAY, or it can't be asked (no such HERD, D, no HEADS)");
        DroveRoads x = new DroveRoads();
        none(x, 0, 5);
        Scenes.sixHerds(x);
        for (int herd : new int[] {-1, 6, LEAST, GREATEST}) {
            none(x, herd, 5);
        }
        for (int d : new int[] {0, 61, -1, LEAST, GREATEST}) {
            none(x, 5, d);
        }
        CHECKS.holds("it can be asked", x.gain(5, 5) != NO_WAY);
        DroveRoads sold = withHerd(1, 1);
        Checks.orders(sold, 0, "when 1 do sell 499;");
        sold.days(1);
        CHECKS.due("with one head", sold.gain(0, 3), 3 + 1);
        sold.days(1);
        none(sold, 0, 3);
        none(sold, 0, 60);
        DroveRoads there = withHerd(1);
        there.days(1);
        none(there, 0, 5);
    }

    private static void noWay() {
        CHECKS.says("-100000 if there is no WAY");
        none(withHerd(1, 1), 0, 1);
        CHECKS.due("a day more", withHerd(1, 1).gain(0, 2), 1);
        none(withHerd(30, 30, 30), 0, 4);
        CHECKS.due("a day more", withHerd(30, 30, 30).gain(0, 5), 6 + 2 - 18);
    }

    private static void lengthAsked() {
        CHECKS.says("How many days BEST has; NONE without.");
        DroveRoads x = withHerd(1, 1, 1);
        int[] want = {-1, -1, -1, 3, 4, 5};
        for (int d = 0; d < want.length; d++) {
            CHECKS.due("length(0, " + d + ")", x.length(0, d), want[d]);
        }
        CHECKS.due("length(0, 60)", x.length(0, 60), 60);
        CHECKS.due("length(0, 61)", x.length(0, 61), -1);
        CHECKS.due("length(1, 5)", x.length(1, 5), -1);
        CHECKS.due("length(-1, 5)", x.length(-1, 5), -1);
    }

    private static void actAsked() {
        CHECKS.says("The act of its day k (from 0 on): 1 walk, 0 rest; NONE without.");
        DroveRoads x = withHerd(1, 1);
        CHECKS.due("act(0, 4, 0)", x.act(0, 4, 0), 1);
        CHECKS.due("act(0, 4, 1)", x.act(0, 4, 1), 0);
        CHECKS.due("act(0, 4, 3)", x.act(0, 4, 3), 1);
        for (int k : new int[] {-1, 4, 5, 60, LEAST, GREATEST}) {
            CHECKS.due("act(0, 4, " + k + ")", x.act(0, 4, k), -1);
        }
        CHECKS.due("act(0, 1, 0) without a way", x.act(0, 1, 0), -1);
        CHECKS.due("act(0, 61, 0)", x.act(0, 61, 0), -1);
        CHECKS.due("act(1, 4, 0)", x.act(1, 4, 0), -1);
        CHECKS.due("act(-1, 4, 0)", x.act(-1, 4, 0), -1);
    }

    private static void asksChangeNothing() {
        CHECKS.says("GAIN of BEST for a HERD ALONE, of D days at most");
        CHECKS.refused("gain(0, 61)", Scenes::busy, x -> x.gain(0, 61), NO_WAY);
        CHECKS.refused("length(2, 5)", Scenes::busy, x -> x.length(2, 5), -1);
        CHECKS.refused("act(0, 5, 5)", Scenes::busy, x -> x.act(0, 5, 5), -1);
        CHECKS.refused("act(0, 60, 59)", Scenes::busy, x -> x.act(0, 60, 59), 1);
    }
}
