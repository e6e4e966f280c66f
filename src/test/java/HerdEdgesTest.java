/** The boundary cases that the document names of herds and of letters: promises 5 to 7 and 13. */
public final class HerdEdgesTest {
    private static final Checks CHECKS = new Checks("HerdEdgesTest");
    private static final int LEAST = Checks.LEAST;
    private static final int GREATEST = Checks.GREATEST;

    public static void main(String[] args) {
        sixHerds();
        start();
        startLate();
        heads();
        weight();
        need();
        newHerd();
        allAddUp();
        herdRefused();
        allThatIsTold();
        ofAsked();
        thirtyLetters();
        price();
        lag();
        sentOnTheDay();
        longestLag();
        atOnceAtTheFair();
        sentLast();
        toldLast();
        noLetter();
        letterRefused();
        knownAsked();
        CHECKS.close();
    }

    private static void sixHerds() {
        CHECKS.says("HERDS, 6 at most, set out from STANCE 0");
        DroveRoads x = new DroveRoads();
        for (int number = 0; number < 6; number++) {
            CHECKS.due("herd " + number, x.herd(1, 100, 1, 0), number);
            CHECKS.due("its stance", x.of(number, 3), 0);
            CHECKS.due("herds", x.about(2), number + 1);
        }
        CHECKS.due("a 7th", x.herd(1, 100, 1, 0), -1);
        CHECKS.due("herds", x.about(2), 6);
        x.days(1);
        CHECKS.due("no heads are left", x.of(5, 0), 0);
        CHECKS.due("a 7th when all are sold", x.herd(1, 100, 1, 1), -1);
    }

    private static void start() {
        CHECKS.says("on a START (a day not before now, 10000 at most)");
        CHECKS.due("start 10000 on day 0", new DroveRoads().herd(1, 100, 1, 10000), 0);
        CHECKS.due("start 10001 on day 0", new DroveRoads().herd(1, 100, 1, 10001), -1);
        CHECKS.due("start -1 on day 0", new DroveRoads().herd(1, 100, 1, -1), -1);
        DroveRoads x = new DroveRoads();
        x.days(7);
        CHECKS.due("start 6 on day 7", x.herd(1, 100, 1, 6), -1);
        CHECKS.due("start 0 on day 7", x.herd(1, 100, 1, 0), -1);
        CHECKS.due("start 7 on day 7", x.herd(1, 100, 1, 7), 0);
        CHECKS.due("start 8 on day 7", x.herd(1, 100, 1, 8), 1);
    }

    private static void startLate() {
        CHECKS.says("on a START (a day not before now, 10000 at most)");
        DroveRoads x = new DroveRoads();
        x.herd(1, 100, 1, 10000);
        for (int k = 0; k < 25; k++) {
            x.days(400);
        }
        CHECKS.due("it waits until day 10000", x.of(0, 3), 0);
        CHECKS.due("start 9999 on day 10000", x.herd(1, 100, 1, 9999), -1);
        CHECKS.due("start 10000 on day 10000", x.herd(1, 100, 1, 10000), 1);
        x.days(1);
        CHECKS.due("it sets out on day 10000", x.of(0, 3), 1);
        CHECKS.due("so does the other one", x.of(1, 3), 1);
        CHECKS.due("start 10000 on day 10001", x.herd(1, 100, 1, 10000), -1);
        CHECKS.due("start 10001 on day 10001", x.herd(1, 100, 1, 10001), -1);
    }

    private static void heads() {
        CHECKS.says("HEADS (1 .. 500)");
        for (int heads : new int[] {1, 2, 499, 500}) {
            DroveRoads x = new DroveRoads();
            CHECKS.due("a herd of " + heads, x.herd(heads, 100, 1, 0), 0);
            CHECKS.due("its heads", x.of(0, 0), heads);
        }
        for (int heads : new int[] {0, 501, -1, LEAST, GREATEST}) {
            CHECKS.due("a herd of " + heads, new DroveRoads().herd(heads, 100, 1, 0), -1);
        }
    }

    private static void weight() {
        CHECKS.says("of a WEIGHT (100 .. 600) each");
        for (int weight : new int[] {100, 101, 599, 600}) {
            DroveRoads x = new DroveRoads();
            CHECKS.due("a herd of weight " + weight, x.herd(1, weight, 1, 0), 0);
            CHECKS.due("its weight", x.of(0, 1), weight);
        }
        for (int weight : new int[] {99, 601, 0, -1, LEAST, GREATEST}) {
            CHECKS.due("a herd of weight " + weight, new DroveRoads().herd(1, weight, 1, 0), -1);
        }
    }

    private static void need() {
        CHECKS.says("each wanting NEED (1 .. 20) of GRASS a day");
        for (int need : new int[] {1, 2, 19, 20}) {
            DroveRoads x = Scenes.green(1, 1);
            CHECKS.due("a herd that needs " + need, x.herd(500, 100, need, 0), 0);
            x.days(1);
            CHECKS.due("what it ate", x.of(0, 9), 500 * need);
        }
        for (int need : new int[] {0, 21, -1, LEAST, GREATEST}) {
            CHECKS.due("a herd that needs " + need, new DroveRoads().herd(1, 100, need, 0), -1);
        }
    }

    private static void newHerd() {
        CHECKS.says("SORE 0, COINS 0, not one LEFT, SOLD, or DEAD.");
        DroveRoads x = new DroveRoads();
        Scenes.busy(x);
        CHECKS.due("a third herd", x.herd(500, 600, 20, 9), 2);
        int[] want = {500, 600, 0, 0, 0, 0, 0, 0, 0, 0};
        for (int what = 0; what < want.length; what++) {
            CHECKS.due("of(2, " + what + ")", x.of(2, what), want[what]);
        }
    }

    private static void allAddUp() {
        CHECKS.says("(HEADS at first are always HEADS, LEFT, SOLD and DEAD together.)");
        DroveRoads x = Scenes.bare(30, 30, 30, 30, 30);
        int[] first = {500, 300, 20, 1};
        for (int heads : first) {
            x.herd(heads, 100, 1, 0);
        }
        Checks.orders(x, 0, "when day = 2 do sell 7; when day = 4 do rest;");
        Checks.orders(x, 1, "when day < 9 do rest;");
        Checks.orders(x, 2, "when day = 5 do sell 3;");
        for (int day = 0; day < 16; day++) {
            for (int herd = 0; herd < first.length; herd++) {
                int together = x.of(herd, 0) + x.of(herd, 5) + x.of(herd, 6) + x.of(herd, 7);
                CHECKS.due("day " + day + ", herd " + herd, together, first[herd]);
            }
            x.days(1);
        }
        CHECKS.holds("some of each kind", x.of(0, 5) > 0 && x.of(0, 6) > 7 && x.of(0, 7) > 0 && x.of(0, 0) == 0);
    }

    private static void herdRefused() {
        CHECKS.says("A HERD: its number; NONE, doing nothing, if it can't be, or there are 6.");
        int[][] wrong = {
            {0, 100, 1, 5}, {501, 100, 1, 5}, {LEAST, 100, 1, 5}, {GREATEST, 100, 1, 5},
            {1, 99, 1, 5}, {1, 601, 1, 5}, {1, LEAST, 1, 5}, {1, GREATEST, 1, 5},
            {1, 100, 0, 5}, {1, 100, 21, 5}, {1, 100, LEAST, 5}, {1, 100, GREATEST, 5},
            {1, 100, 1, 1}, {1, 100, 1, -1}, {1, 100, 1, 10001}, {1, 100, 1, LEAST}, {1, 100, 1, GREATEST},
        };
        for (int[] w : wrong) {
            String call = "herd(" + w[0] + ", " + w[1] + ", " + w[2] + ", " + w[3] + ")";
            CHECKS.refused(call, Scenes::busy, x -> x.herd(w[0], w[1], w[2], w[3]), -1);
        }
        CHECKS.refused("a 7th herd", Scenes::sixHerds, x -> x.herd(1, 100, 1, 0), -1);
        DroveRoads x = new DroveRoads();
        Scenes.laid(x);
        x.herd(1, 100, 1, -1);
        CHECKS.due("a refused herd does not fix the road", x.stance(1), 4);
    }

    private static void ofAsked() {
        CHECKS.says("9: what it ate so far. NONE if there is none such.");
        DroveRoads x = new DroveRoads();
        CHECKS.due("of(0, 0) without herds", x.of(0, 0), -1);
        Scenes.busy(x);
        for (int herd : new int[] {-1, 2, 5, 6, LEAST, GREATEST}) {
            for (int what = 0; what <= 9; what++) {
                CHECKS.due("of(" + herd + ", " + what + ")", x.of(herd, what), -1);
            }
        }
        for (int what : new int[] {-1, 10, LEAST, GREATEST}) {
            CHECKS.due("of(0, " + what + ")", x.of(0, what), -1);
            CHECKS.due("of(1, " + what + ")", x.of(1, what), -1);
        }
    }

    private static void allThatIsTold() {
        CHECKS.says("Of a HERD what 0: HEADS, 1: WEIGHT, 2: SORE, 3: STANCE, 4: COINS, 5: LEFT, 6: SOLD, 7: DEAD, 8: lines of its ORDERS, 9: what it ate so far.");
        DroveRoads x = Scenes.bare(30, 1, 30, 1);
        x.grass(0, 40, 0, 40);
        x.letter(200);
        x.herd(40, 103, 1, 0);
        Checks.orders(x, 0, "when day < 2 do rest; when stance = 1 and heads = 40 do sell 2;");
        x.days(6);
        // 106 and 102 at rest, then 92, 88, 84 and, by the third stage, 74; sore 30, 15, 16, 46.
        int[] want = {34, 74, 46, 3, 184, 0, 2, 4, 2, 40};
        for (int what = 0; what < want.length; what++) {
            CHECKS.due("of(0, " + what + ")", x.of(0, what), want[what]);
        }
        x.days(1);
        // None is left behind at 47, and all that live are sold at the fair.
        CHECKS.due("of(0, 0)", x.of(0, 0), 0);
        CHECKS.due("of(0, 6)", x.of(0, 6), 36);
        CHECKS.due("of(0, 4)", x.of(0, 4), 184 + 34 * 74 * 2);
    }

    private static void thirtyLetters() {
        CHECKS.says("LETTERS, 30 at most");
        DroveRoads x = new DroveRoads();
        for (int number = 1; number <= 30; number++) {
            CHECKS.due("letter " + number, x.letter(number), number);
            CHECKS.due("letters", x.about(3), number);
            CHECKS.due("it is known", x.known(1), number);
        }
        CHECKS.due("a 31st", x.letter(99), -1);
        CHECKS.due("letters", x.about(3), 30);
        CHECKS.due("the 30th is known", x.known(1), 30);
        x.days(400);
        CHECKS.due("a 31st much later", x.letter(99), -1);
    }

    private static void price() {
        CHECKS.says("tell a PRICE (0 .. 1000)");
        for (int price : new int[] {0, 1, 999, 1000}) {
            DroveRoads x = new DroveRoads();
            x.letter(5);
            CHECKS.due("letter(" + price + ")", x.letter(price), 2);
            CHECKS.due("known", x.known(1), price);
        }
        for (int price : new int[] {-1, 1001, LEAST, GREATEST}) {
            CHECKS.due("letter(" + price + ")", new DroveRoads().letter(price), -1);
        }
    }

    /** Stance 0 is as many miles from the fair as the stages have together. */
    private static void knownAfter(int days, int... miles) {
        DroveRoads x = Scenes.bare(miles);
        x.days(3);
        x.letter(8);
        if (days > 0) {
            x.days(days - 1);
            CHECKS.due(x.at(0, 3) + " miles, not yet there", x.known(0), 0);
            x.days(1);
        }
        CHECKS.due(x.at(0, 3) + " miles, there", x.known(0), 8);
    }

    private static void lag() {
        CHECKS.says("is at a STANCE so many days later as 40 goes into the MILES from there to THE FAIR, rounded up");
        knownAfter(1, 1);
        knownAfter(1, 30);
        knownAfter(1, 10, 29);
        knownAfter(1, 10, 30);
        knownAfter(2, 11, 30);
        knownAfter(2, 20, 30, 29);
        knownAfter(2, 20, 30, 30);
        knownAfter(3, 21, 30, 30);
    }

    private static void sentOnTheDay() {
        CHECKS.says("each is sent from THE FAIR on the DAY on which it is told");
        DroveRoads x = Scenes.bare(30);
        x.days(400);
        x.letter(8);
        CHECKS.due("at the fair on day 400", x.known(1), 8);
        CHECKS.due("at stance 0 on day 400", x.known(0), 0);
        x.days(1);
        CHECKS.due("at stance 0 on day 401", x.known(0), 8);
    }

    private static void longestLag() {
        CHECKS.says("so many days later as 40 goes into the MILES from there to THE FAIR, rounded up");
        knownAfter(6, 30, 30, 30, 30, 30, 30, 30, 30);
        knownAfter(7, 30, 30, 30, 30, 30, 30, 30, 30, 1);
        knownAfter(7, 30, 30, 30, 30, 30, 30, 30, 30, 30);
    }

    private static void atOnceAtTheFair() {
        CHECKS.says("(at once at THE FAIR)");
        DroveRoads x = Scenes.bare(1, 1);
        x.letter(8);
        CHECKS.due("at the fair", x.known(2), 8);
        CHECKS.due("a mile off", x.known(1), 0);
        DroveRoads y = new DroveRoads();
        y.herd(2, 100, 1, 0);
        y.letter(50);
        y.days(1);
        CHECKS.due("sold at the price of the day", y.of(0, 4), 100);
    }

    private static void sentLast() {
        CHECKS.says("KNOWN at a STANCE on a day is the PRICE of the LETTER sent last of those that are there");
        DroveRoads x = Scenes.bare(30, 30);
        int[] told = {5, 6, 0, 7};
        // Two days to stance 0, one to stance 1.
        int[][] known = {{0, 0, 5}, {0, 5, 6}, {5, 6, 0}, {6, 0, 7}, {0, 7, 7}, {7, 7, 7}, {7, 7, 7}};
        for (int day = 0; day < known.length; day++) {
            if (day < told.length) {
                x.letter(told[day]);
            }
            for (int stance = 0; stance <= 2; stance++) {
                CHECKS.due("day " + day + " known(" + stance + ")", x.known(stance), known[day][stance]);
            }
            x.days(1);
        }
    }

    private static void toldLast() {
        CHECKS.says("(of like ones the one told last)");
        DroveRoads x = new DroveRoads();
        x.letter(9);
        x.letter(3);
        CHECKS.due("at the fair", x.known(1), 3);
        x.letter(6);
        CHECKS.due("at the fair", x.known(1), 6);
        x.days(1);
        CHECKS.due("at stance 0", x.known(0), 6);
    }

    private static void noLetter() {
        CHECKS.says("0 without.");
        DroveRoads x = new DroveRoads();
        CHECKS.due("at stance 0", x.known(0), 0);
        CHECKS.due("at the fair", x.known(1), 0);
        x.letter(1001);
        x.days(9);
        CHECKS.due("at the fair", x.known(1), 0);
        x.herd(3, 100, 1, 9);
        x.days(1);
        CHECKS.due("sold", x.of(0, 6), 3);
        CHECKS.due("for nothing", x.of(0, 4), 0);
    }

    private static void letterRefused() {
        CHECKS.says("A LETTER: how many there are; NONE, doing nothing, if it can't be, or there are 30.");
        for (int price : new int[] {-1, 1001, LEAST, GREATEST}) {
            CHECKS.refused("letter(" + price + ")", Scenes::busy, x -> x.letter(price), -1);
        }
        CHECKS.refused("a 31st letter", Scenes::thirtyLetters, x -> x.letter(500), -1);
    }

    private static void knownAsked() {
        CHECKS.says("KNOWN at a STANCE on the DAY; NONE if there is none such.");
        DroveRoads x = new DroveRoads();
        Scenes.busy(x);
        for (int stance : new int[] {-1, 4, 9, 10, LEAST, GREATEST}) {
            CHECKS.due("known(" + stance + ")", x.known(stance), -1);
        }
        CHECKS.due("known(0)", x.known(0), 70);
        CHECKS.due("known(3)", x.known(3), 90);
    }
}
