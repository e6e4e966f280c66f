/** Promises 5, 12 and 13: herds, what a day does to them, and what is told of them. */
public final class HerdTest {
    private static final Checks CHECKS = new Checks("HerdTest");
    private static final int LEAST = Integer.MIN_VALUE;
    private static final int GREATEST = Integer.MAX_VALUE;

    public static void main(String[] args) {
        newHerds();
        startDays();
        dayLimits();
        whoComesFirstEats();
        restAndSell();
        sellAll();
        sellAllButOne();
        footsore();
        allLeft();
        hunger();
        manyDead();
        weightLimits();
        walkWithoutWeight();
        fairSells();
        CHECKS.close();
    }

    private static void tells(DroveRoads x, int herd, int... want) {
        for (int what = 0; what < want.length; what++) {
            CHECKS.due("of(" + herd + ", " + what + ")", x.of(herd, what), want[what]);
        }
    }

    private static void newHerds() {
        DroveRoads x = new DroveRoads();
        int[][] wrong = {
            {0, 100, 1, 0}, {501, 100, 1, 0}, {-1, 100, 1, 0}, {1, 99, 1, 0}, {1, 601, 1, 0}, {1, 100, 0, 0},
            {1, 100, 21, 0}, {1, 100, 1, -1}, {1, 100, 1, 10001}, {GREATEST, 100, 1, 0}, {1, LEAST, 1, 0},
            {1, 100, GREATEST, 0}, {1, 100, 1, LEAST}, {1, 100, 1, GREATEST},
        };
        for (int[] w : wrong) {
            CHECKS.due("wrong herd", x.herd(w[0], w[1], w[2], w[3]), -1);
        }
        CHECKS.due("about(2)", x.about(2), 0);
        CHECKS.due("least herd", x.herd(1, 100, 1, 0), 0);
        CHECKS.due("greatest herd", x.herd(500, 600, 20, 10000), 1);
        tells(x, 1, 500, 600, 0, 0, 0, 0, 0, 0, 0, 0);
        for (int number = 2; number < 6; number++) {
            CHECKS.due("herd " + number, x.herd(2, 100, 1, 0), number);
        }
        CHECKS.due("a seventh herd", x.herd(2, 100, 1, 0), -1);
        CHECKS.due("about(2) at most", x.about(2), 6);
        for (int what : new int[] {-1, 10, LEAST, GREATEST}) {
            CHECKS.due("of(0, " + what + ")", x.of(0, what), -1);
        }
        for (int herd : new int[] {-1, 6, LEAST, GREATEST}) {
            CHECKS.due("of(" + herd + ", 0)", x.of(herd, 0), -1);
        }
    }

    private static void startDays() {
        DroveRoads x = new DroveRoads();
        x.stance(2);
        x.herd(5, 100, 1, 2);
        x.days(2);
        CHECKS.due("waits for its start", x.of(0, 3), 0);
        CHECKS.due("does not eat before", x.of(0, 1), 100);
        x.days(1);
        CHECKS.due("sets out on its start", x.of(0, 3), 1);
        CHECKS.due("a start before now", x.herd(1, 100, 1, 2), -1);
        CHECKS.due("a start now", x.herd(1, 100, 1, 3), 1);
    }

    private static void dayLimits() {
        DroveRoads x = new DroveRoads();
        for (int wrong : new int[] {-1, 401, LEAST, GREATEST}) {
            CHECKS.due("days(" + wrong + ")", x.days(wrong), -1);
        }
        CHECKS.due("days(0)", x.days(0), 0);
        CHECKS.due("about(0)", x.about(0), 0);
        CHECKS.due("days(399)", x.days(399), 399);
        for (int k = 0; k < 249; k++) {
            CHECKS.due("days(400)", x.days(400), 400);
            if (k == 24) {
                CHECKS.due("about(0)", x.about(0), 10399);
                CHECKS.due("no start is left", x.herd(1, 100, 1, 10399), -1);
            }
        }
        CHECKS.due("about(0)", x.about(0), 99999);
        CHECKS.due("days to the last", x.days(400), 1);
        CHECKS.due("about(0) at last", x.about(0), 100000);
        CHECKS.due("no day more", x.days(400), 0);
        CHECKS.due("no day more", x.days(1), 0);
        CHECKS.due("days(401) at last", x.days(401), -1);
        CHECKS.due("about(0) at last", x.about(0), 100000);
    }

    private static void whoComesFirstEats() {
        DroveRoads x = new DroveRoads();
        x.stance(10);
        x.grass(1, 25, 5, 40);
        x.herd(10, 200, 2, 0);
        x.herd(10, 200, 2, 0);
        x.herd(10, 200, 2, 0);
        x.days(1);
        tells(x, 0, 10, 201, 1, 1, 0, 0, 0, 0, 0, 20);
        tells(x, 1, 10, 196, 1, 1, 0, 0, 0, 0, 0, 10);
        tells(x, 2, 10, 196, 1, 1, 0, 0, 0, 0, 0, 0);
        CHECKS.due("nothing is left", x.at(1, 0), 0);
    }

    private static void restAndSell() {
        DroveRoads x = new DroveRoads();
        x.first(30);
        x.stance(30);
        x.stance(30);
        x.grass(1, 1000, 0, 1000);
        x.herd(10, 301, 1, 0);
        x.letter(99);
        x.days(1);
        tells(x, 0, 10, 296, 30, 1);
        CHECKS.due("orders", Checks.orders(x, 0, "when day<3 do sell 3; when sore do rest; when 1 do sell 0;"), 3);
        x.days(1);
        // The letter takes two days to stance 1, 60 miles from the fair.
        tells(x, 0, 7, 299, 15, 1, 0, 0, 3);
        x.days(1);
        tells(x, 0, 4, 302, 0, 1, 3 * 299 * 99 / 200, 0, 6);
        x.days(1);
        tells(x, 0, 4, 305, 0, 1, 3 * 299 * 99 / 200, 0, 6, 0, 3, 10 + 7 + 4 + 4);
    }

    private static void sellAll() {
        DroveRoads x = new DroveRoads();
        x.first(20);
        x.stance(20);
        x.grass(1, 100, 0, 100);
        x.herd(10, 300, 1, 0);
        x.letter(1000);
        x.days(1);
        Checks.orders(x, 0, "when 1 do sell 999999;");
        x.days(1);
        // Those that are left rest: none is, so SORE stays; none eats.
        tells(x, 0, 0, 297, 20, 1, 10 * 297 * 1000 / 200, 0, 10, 0, 1, 10);
        x.days(3);
        tells(x, 0, 0, 297, 20, 1, 10 * 297 * 1000 / 200, 0, 10, 0, 1, 10);
    }

    private static void sellAllButOne() {
        DroveRoads x = new DroveRoads();
        x.first(20);
        x.stance(20);
        x.herd(2, 300, 1, 0);
        x.days(1);
        Checks.orders(x, 0, "when 1 do sell 1;");
        x.days(1);
        tells(x, 0, 1, 288, 5, 1, 0, 0, 1);
        x.days(1);
        tells(x, 0, 0, 288, 5, 1, 0, 0, 2);
    }

    private static void footsore() {
        DroveRoads x = new DroveRoads();
        x.first(30);
        x.stance(30);
        x.stance(1);
        x.stance(29);
        for (int k = 0; k < 4; k++) {
            x.grass(k, 100000, 0, 100000);
        }
        x.herd(500, 600, 1, 0);
        x.herd(19, 600, 1, 0);
        x.days(2);
        CHECKS.due("sixty is borne", x.of(0, 5), 0);
        x.days(1);
        tells(x, 0, 474, 600 - 5 - 5 + 1, 61, 3, 0, 26);
        tells(x, 1, 18, 591, 61, 3, 0, 1);
        CHECKS.due("at(3, 4)", x.at(3, 4), 27);
        CHECKS.due("at(2, 4)", x.at(2, 4), 0);
        x.days(1);
        tells(x, 0, 0, 586, 90, 4, 0, 26 + 24, 450, 0);
        tells(x, 1, 0, 586, 90, 4, 0, 2, 17, 0);
        CHECKS.due("at(4, 4)", x.at(4, 4), 25);
    }

    private static void allLeft() {
        DroveRoads x = new DroveRoads();
        x.first(30);
        x.stance(30);
        x.stance(30);
        x.herd(1, 600, 1, 0);
        x.letter(500);
        x.days(3);
        tells(x, 0, 0, 600 - 18 - 8, 90, 3, 0, 1, 0, 0, 0, 0);
        CHECKS.due("at(3, 4)", x.at(3, 4), 1);
    }

    private static void hunger() {
        DroveRoads x = new DroveRoads();
        x.herd(25, 100, 1, 0);
        Checks.orders(x, 0, "when 1 do rest;");
        x.days(5);
        tells(x, 0, 25, 80, 0, 0, 0, 0, 0, 0);
        x.days(1);
        tells(x, 0, 22, 76, 0, 0, 0, 0, 0, 3);
        x.grass(0, 20, 0, 1000);
        x.days(1);
        CHECKS.due("ate what there was", x.of(0, 9), 20);
        tells(x, 0, 19, 72, 0, 0, 0, 0, 0, 6);
        x.grass(0, 1000, 0, 1000);
        x.days(1);
        tells(x, 0, 17, 75, 0, 0, 0, 0, 0, 8);
        x.days(2);
        // Fed again, but below 80 still on the first of these days.
        tells(x, 0, 15, 81, 0, 0, 0, 0, 0, 10);
        x.grass(0, 0, 0, 0);
        x.days(30);
        CHECKS.due("all are dead", x.of(0, 7), 25);
        CHECKS.due("no heads", x.of(0, 0), 0);
    }

    private static void manyDead() {
        DroveRoads x = new DroveRoads();
        x.herd(500, 100, 20, 0);
        Checks.orders(x, 0, "when 1 do rest;");
        x.days(6);
        tells(x, 0, 449, 76, 0, 0, 0, 0, 0, 51);
        x.days(1);
        tells(x, 0, 404, 72, 0, 0, 0, 0, 0, 96);
    }

    private static void walkWithoutWeight() {
        DroveRoads x = new DroveRoads();
        x.first(30);
        x.stance(30);
        x.grass(1, 100000, 0, 100000);
        x.herd(500, 100, 1, 0);
        Checks.orders(x, 0, "when weight and stance=0 do rest;");
        x.days(25);
        CHECKS.due("no weight", x.of(0, 1), 0);
        x.days(1);
        CHECKS.due("walked", x.of(0, 3), 1);
        CHECKS.due("one for the grass", x.of(0, 1), 1);
    }

    private static void weightLimits() {
        DroveRoads x = new DroveRoads();
        x.grass(0, 100000, 1000, 100000);
        x.herd(1, 599, 1, 0);
        Checks.orders(x, 0, "when 1 do rest;");
        x.days(33);
        CHECKS.due("weight", x.of(0, 1), 698);
        x.days(1);
        CHECKS.due("weight at most", x.of(0, 1), 700);
        x.days(9);
        CHECKS.due("weight at most", x.of(0, 1), 700);
        DroveRoads y = new DroveRoads();
        y.herd(500, 100, 1, 0);
        Checks.orders(y, 0, "when 1 do rest;");
        y.days(26);
        // 80 after five days without grass; the dead are a tenth and one a day from then on.
        CHECKS.due("weight at least", y.of(0, 1), 0);
        CHECKS.holds("some are dead, some are not", y.of(0, 0) > 0 && y.of(0, 0) + y.of(0, 7) == 500);
    }

    private static void fairSells() {
        DroveRoads x = new DroveRoads();
        x.first(29);
        x.herd(7, 123, 3, 0);
        x.letter(77);
        x.letter(78);
        x.days(1);
        // A letter is known at the fair at once, the one told last of like ones.
        tells(x, 0, 0, 118, 29, 1, 7 * 118 * 78 / 100, 0, 7, 0, 0, 0);
        x.days(5);
        tells(x, 0, 0, 118, 29, 1, 7 * 118 * 78 / 100, 0, 7, 0, 0, 0);
    }
}
