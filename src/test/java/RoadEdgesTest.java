/** The boundary cases that the document names of the road, its grass and its days: promises 1 to 4, 12, 14, 24. */
public final class RoadEdgesTest {
    private static final Checks CHECKS = new Checks("RoadEdgesTest");
    private static final int LEAST = Checks.LEAST;
    private static final int GREATEST = Checks.GREATEST;

    public static void main(String[] args) {
        roadOfTwoToTen();
        fairIsTheLast();
        milesOfAStage();
        grows();
        most();
        noGrassAtTheFair();
        grownToMost();
        firstDay();
        none();
        newObject();
        stanceMore();
        formerFairIsBare();
        stanceRefused();
        firstTold();
        firstRefused();
        grassTold();
        grassRefused();
        daysOfACall();
        lastDay();
        lastDayIsQuiet();
        atAsked();
        milesToTheFair();
        leftOnTheWay();
        aboutAsked();
        aboutCounts();
        asksChangeNothing();
        CHECKS.close();
    }

    private static void roadOfTwoToTen() {
        CHECKS.says("THE ROAD has STANCES 0 .. n - 1 (n 2 .. 10)");
        DroveRoads x = new DroveRoads();
        CHECKS.due("stances at first", x.about(1), 2);
        CHECKS.due("stance 2 is not there", x.at(2, 0), -1);
        for (int number = 2; number <= 9; number++) {
            CHECKS.due("stance " + number, x.stance(1), number);
            CHECKS.due("stances with it", x.about(1), number + 1);
        }
        CHECKS.due("an 11th", x.stance(1), -1);
        CHECKS.due("stances at most", x.about(1), 10);
        CHECKS.due("stance 9 is there", x.at(9, 0), 0);
        CHECKS.due("stance 10 is not there", x.at(10, 0), -1);
    }

    private static void fairIsTheLast() {
        CHECKS.says("the last one is THE FAIR");
        DroveRoads x = new DroveRoads();
        CHECKS.due("grass at the one ahead of it", x.grass(0, 1, 1, 1), true);
        for (int fair = 1; fair <= 9; fair++) {
            CHECKS.due("grass at the fair, stance " + fair, x.grass(fair, 0, 0, 0), false);
            CHECKS.due("miles from it", x.at(fair, 3), 0);
            CHECKS.due("one behind it", x.stance(2), fair == 9 ? -1 : fair + 1);
        }
        DroveRoads y = Scenes.green(1, 1);
        y.herd(5, 200, 1, 0);
        y.days(1);
        CHECKS.due("not sold ahead of the fair", y.of(0, 0), 5);
        y.days(1);
        CHECKS.due("sold at the fair", y.of(0, 6), 5);
    }

    private static void milesOfAStage() {
        CHECKS.says("STAGE k lies between STANCE k and k + 1: MILES (1 .. 30).");
        for (int miles : new int[] {1, 2, 29, 30}) {
            DroveRoads x = new DroveRoads();
            CHECKS.due("first(" + miles + ")", x.first(miles), true);
            CHECKS.due("miles of it", x.at(0, 3), miles);
            CHECKS.due("stance(" + miles + ")", x.stance(miles), 2);
            CHECKS.due("miles of it", x.at(1, 3), miles);
            CHECKS.due("miles of both", x.at(0, 3), 2 * miles);
        }
        for (int miles : new int[] {0, 31, -1, LEAST, GREATEST}) {
            CHECKS.due("first(" + miles + ")", new DroveRoads().first(miles), false);
            CHECKS.due("stance(" + miles + ")", new DroveRoads().stance(miles), -1);
        }
    }

    private static void grows() {
        CHECKS.says("A STANCE has GRASS, of which so much GROWS a day (0 .. 1000)");
        for (int grows : new int[] {0, 1, 999, 1000}) {
            DroveRoads x = new DroveRoads();
            CHECKS.due("grass that grows by " + grows, x.grass(0, 5, grows, 5000), true);
            CHECKS.due("what grows", x.at(0, 1), grows);
            x.days(1);
            CHECKS.due("grass a day later", x.at(0, 0), 5 + grows);
            x.days(1);
            CHECKS.due("grass two days later", x.at(0, 0), 5 + 2 * grows);
        }
        for (int grows : new int[] {-1, 1001, LEAST, GREATEST}) {
            CHECKS.due("grass that grows by " + grows, new DroveRoads().grass(0, 5, grows, 5000), false);
        }
    }

    private static void most() {
        CHECKS.says("MOST at most (0 .. 100000)");
        for (int most : new int[] {0, 1, 99999, 100000}) {
            DroveRoads x = new DroveRoads();
            CHECKS.due("at most " + most, x.grass(0, most, 1000, most), true);
            CHECKS.due("grass", x.at(0, 0), most);
            CHECKS.due("most", x.at(0, 2), most);
            x.days(1);
            CHECKS.due("grass a day later", x.at(0, 0), most);
        }
        for (int most : new int[] {-1, 100001, LEAST, GREATEST}) {
            CHECKS.due("at most " + most, new DroveRoads().grass(0, 0, 0, most), false);
        }
    }

    private static void noGrassAtTheFair() {
        CHECKS.says("at THE FAIR there is none");
        DroveRoads x = Scenes.green(1, 1);
        CHECKS.due("grass(2, 1, 1, 1)", x.grass(2, 1, 1, 1), false);
        x.days(400);
        for (int what = 0; what <= 2; what++) {
            CHECKS.due("at(2, " + what + ")", x.at(2, what), 0);
        }
    }

    private static void grownToMost() {
        CHECKS.says("at each STANCE GRASS is more by what GROWS, to MOST.");
        DroveRoads x = Scenes.bare(1, 1, 1, 1);
        x.grass(0, 89, 5, 100);
        x.grass(1, 90, 5, 100);
        x.grass(2, 91, 5, 100);
        x.grass(3, 0, 1000, 0);
        int[][] want = {{94, 95, 96, 0, 0}, {99, 100, 100, 0, 0}, {100, 100, 100, 0, 0}, {100, 100, 100, 0, 0}};
        for (int day = 0; day < want.length; day++) {
            x.days(1);
            for (int stance = 0; stance < 5; stance++) {
                CHECKS.due("day " + day + " at(" + stance + ", 0)", x.at(stance, 0), want[day][stance]);
            }
        }
    }

    private static void firstDay() {
        CHECKS.says("The DAY is 0 at first.");
        CHECKS.due("about(0)", new DroveRoads().about(0), 0);
        CHECKS.due("a start on day 0", new DroveRoads().herd(1, 100, 1, 0), 0);
    }

    private static void none() {
        CHECKS.says("`NONE = -1`: There is none.");
        CHECKS.due("NONE", DroveRoads.NONE, -1);
    }

    private static void newObject() {
        CHECKS.says("Two STANCES, one mile between them, no GRASS; DAY 0.");
        DroveRoads x = new DroveRoads();
        int[] about = {0, 2, 0, 0, 0, 0, 0};
        for (int what = 0; what < about.length; what++) {
            CHECKS.due("about(" + what + ")", x.about(what), about[what]);
        }
        int[][] at = {{0, 0, 0, 1, 0}, {0, 0, 0, 0, 0}, {-1, -1, -1, -1, -1}};
        for (int stance = 0; stance < at.length; stance++) {
            for (int what = 0; what < 5; what++) {
                CHECKS.due("at(" + stance + ", " + what + ")", x.at(stance, what), at[stance][what]);
            }
        }
        x.days(3);
        CHECKS.due("no grass grows", x.at(0, 0), 0);
        x.herd(1, 100, 1, 3);
        x.days(1);
        CHECKS.due("a herd walks one mile", x.of(0, 2), 1);
        DroveRoads y = new DroveRoads();
        y.stance(5);
        CHECKS.due("miles with a stage more", y.at(0, 3), 6);
    }

    private static void stanceMore() {
        CHECKS.says("A STANCE more behind the last one, which is THE FAIR then");
        DroveRoads x = new DroveRoads();
        for (int number = 2; number <= 9; number++) {
            CHECKS.due("stance(" + (number + 10) + ")", x.stance(number + 10), number);
            CHECKS.due("miles to it", x.at(number - 1, 3), number + 10);
            CHECKS.due("it is the fair", x.grass(number, 0, 0, 0), false);
            CHECKS.due("the one ahead is not", x.grass(number - 1, 0, 0, 0), true);
        }
    }

    private static void formerFairIsBare() {
        CHECKS.says("(and had no GRASS, nothing GROWS, MOST 0)");
        DroveRoads x = Scenes.green(1);
        x.grass(1, 7, 7, 7);
        x.stance(3);
        x.days(2);
        for (int stance = 1; stance <= 2; stance++) {
            for (int what = 0; what <= 2; what++) {
                CHECKS.due("at(" + stance + ", " + what + ")", x.at(stance, what), 0);
            }
        }
    }

    private static void stanceRefused() {
        CHECKS.says("NONE, doing nothing, if MILES can't be, there are 10, or there are HERDS.");
        for (int miles : new int[] {0, 31, -1, LEAST, GREATEST}) {
            CHECKS.refused("stance(" + miles + ")", Scenes::laid, x -> x.stance(miles), -1);
        }
        CHECKS.refused("stance(1) with 10", Scenes::tenStances, x -> x.stance(1), -1);
        CHECKS.refused("stance(30) with 10", Scenes::tenStances, x -> x.stance(30), -1);
        CHECKS.refused("stance(1) with herds", Scenes::busy, x -> x.stance(1), -1);
        CHECKS.refused("stance(1) with a herd that has not set out", RoadEdgesTest::waiting, x -> x.stance(1), -1);
        CHECKS.refused("stance(1) with a herd without heads", RoadEdgesTest::soldOut, x -> x.stance(1), -1);
    }

    private static void firstTold() {
        CHECKS.says("The first STAGE has so many MILES: true");
        DroveRoads x = new DroveRoads();
        CHECKS.due("first(30)", x.first(30), true);
        CHECKS.due("first(1)", x.first(1), true);
        CHECKS.due("miles", x.at(0, 3), 1);
        DroveRoads y = new DroveRoads();
        Scenes.tenStances(y);
        int miles = y.at(1, 3);
        CHECKS.due("first(30) with 10", y.first(30), true);
        CHECKS.due("miles", y.at(0, 3), miles + 30);
        CHECKS.due("miles behind it", y.at(1, 3), miles);
    }

    private static void firstRefused() {
        CHECKS.says("false, doing nothing, likewise (but for 10).");
        for (int miles : new int[] {0, 31, -1, LEAST, GREATEST}) {
            CHECKS.refused("first(" + miles + ")", Scenes::laid, x -> x.first(miles) ? 1 : 0, 0);
        }
        CHECKS.refused("first(1) with herds", Scenes::busy, x -> x.first(1) ? 1 : 0, 0);
        CHECKS.refused("first(1) with a herd that has not set out", RoadEdgesTest::waiting, x -> x.first(1) ? 1 : 0, 0);
        CHECKS.refused("first(1) with a herd without heads", RoadEdgesTest::soldOut, x -> x.first(1) ? 1 : 0, 0);
        DroveRoads ten = new DroveRoads();
        Scenes.tenStances(ten);
        CHECKS.due("first(1) with 10", ten.first(1), true);
    }

    private static void waiting(DroveRoads x) {
        Scenes.laid(x);
        x.herd(1, 100, 1, 10000);
    }

    private static void soldOut(DroveRoads x) {
        x.herd(1, 100, 1, 0);
        x.days(1);
    }

    private static void grassTold() {
        CHECKS.says("GRASS of a STANCE, GROWS, MOST: true");
        DroveRoads x = new DroveRoads();
        Scenes.busy(x);
        int[][] told = {{0, 0, 0}, {100000, 1000, 100000}, {5, 6, 7}, {0, 0, 100000}, {7, 0, 7}};
        for (int[] t : told) {
            CHECKS.due("grass(1, " + t[0] + ", " + t[1] + ", " + t[2] + ")", x.grass(1, t[0], t[1], t[2]), true);
            for (int what = 0; what <= 2; what++) {
                CHECKS.due("at(1, " + what + ")", x.at(1, what), t[what]);
            }
        }
    }

    private static void grassRefused() {
        CHECKS.says("false, doing nothing, if one can't be, GRASS is above MOST, or it is THE FAIR.");
        int[][] wrong = {
            {-1, 1, 1, 1}, {4, 0, 0, 0}, {10, 1, 1, 1}, {LEAST, 1, 1, 1}, {GREATEST, 1, 1, 1},
            {1, -1, 1, 1}, {1, LEAST, 1, 1}, {1, 1, -1, 1}, {1, 1, 1001, 1}, {1, 1, LEAST, 1}, {1, 1, GREATEST, 1},
            {1, 0, 1, -1}, {1, -1, 1, -1}, {1, 1, 1, 100001}, {1, 1, 1, LEAST}, {1, 1, 1, GREATEST},
            {1, 1, 1, 0}, {1, 100000, 1, 99999}, {1, 100001, 1, 100000}, {1, GREATEST, 1, 100000},
            {3, 0, 0, 0}, {3, 1, 1, 1},
        };
        for (int[] w : wrong) {
            String call = "grass(" + w[0] + ", " + w[1] + ", " + w[2] + ", " + w[3] + ")";
            CHECKS.refused(call, Scenes::busy, x -> x.grass(w[0], w[1], w[2], w[3]) ? 1 : 0, 0);
        }
        DroveRoads x = new DroveRoads();
        Scenes.busy(x);
        CHECKS.due("grass as much as most", x.grass(2, 100000, 1000, 100000), true);
        CHECKS.due("no grass", x.grass(2, 0, 0, 0), true);
    }

    private static void daysOfACall() {
        CHECKS.says("So many DAYS (0 .. 400)");
        DroveRoads x = new DroveRoads();
        int day = 0;
        for (int n : new int[] {0, 1, 399, 400}) {
            CHECKS.due("days(" + n + ")", x.days(n), n);
            day += n;
            CHECKS.due("the day", x.about(0), day);
        }
        CHECKS.says("NONE for another number.");
        for (int n : new int[] {-1, 401, LEAST, GREATEST}) {
            CHECKS.refused("days(" + n + ")", Scenes::busy, y -> y.days(n), -1);
        }
        CHECKS.refused("days(0)", Scenes::busy, y -> y.days(0), 0);
    }

    private static void lastDay() {
        CHECKS.says("until THE DAY would be above 100000: how many");
        for (int before : new int[] {0, 1, 399, 400}) {
            DroveRoads x = onDay(100000 - before);
            CHECKS.due("days left of " + before, x.days(400), before);
            CHECKS.due("the last day", x.about(0), 100000);
            CHECKS.due("none is left", x.days(1), 0);
            CHECKS.due("none is left of none", x.days(0), 0);
            CHECKS.due("another number still", x.days(401), -1);
            CHECKS.due("the last day", x.about(0), 100000);
        }
        DroveRoads y = onDay(99990);
        CHECKS.due("days(9)", y.days(9), 9);
        CHECKS.due("days(2)", y.days(2), 1);
    }

    private static DroveRoads onDay(int day) {
        DroveRoads x = new DroveRoads();
        for (int left = day; left > 0; left -= 400) {
            x.days(Math.min(400, left));
        }
        CHECKS.due("the day", x.about(0), day);
        return x;
    }

    private static void lastDayIsQuiet() {
        CHECKS.says("So many DAYS (0 .. 400), until THE DAY would be above 100000");
        DroveRoads x = new DroveRoads();
        x.grass(0, 10, 5, 100000);
        x.herd(5, 200, 1, 0);
        Checks.orders(x, 0, "when 1 do rest;");
        for (int k = 0; k < 250; k++) {
            x.days(400);
        }
        int ate = x.of(0, 9);
        int grass = x.at(0, 0);
        CHECKS.due("ate each day", ate, 500000);
        CHECKS.due("days(400)", x.days(400), 0);
        CHECKS.due("nothing is eaten then", x.of(0, 9), ate);
        x.grass(0, 10, 5, 100000);
        x.days(1);
        CHECKS.due("nothing grows then", x.at(0, 0), 10);
        CHECKS.due("it grew as it was eaten", grass, 10);
    }

    private static void atAsked() {
        CHECKS.says("footsore ones LEFT on the way to it from the one ahead. NONE if there is none such.");
        DroveRoads x = new DroveRoads();
        Scenes.busy(x);
        for (int stance : new int[] {-1, 4, 9, 10, LEAST, GREATEST}) {
            for (int what = 0; what <= 4; what++) {
                CHECKS.due("at(" + stance + ", " + what + ")", x.at(stance, what), -1);
            }
        }
        for (int what : new int[] {-1, 5, LEAST, GREATEST}) {
            for (int stance = 0; stance <= 3; stance++) {
                CHECKS.due("at(" + stance + ", " + what + ")", x.at(stance, what), -1);
            }
        }
    }

    private static void milesToTheFair() {
        CHECKS.says("3: MILES to THE FAIR");
        DroveRoads x = Scenes.bare(30, 30, 30, 30, 30, 30, 30, 30, 30);
        for (int stance = 0; stance <= 9; stance++) {
            CHECKS.due("at(" + stance + ", 3)", x.at(stance, 3), 30 * (9 - stance));
        }
    }

    private static void leftOnTheWay() {
        CHECKS.says("4: footsore ones LEFT on the way to it from the one ahead");
        DroveRoads x = Scenes.green(30, 30, 1, 1);
        x.herd(40, 300, 1, 0);
        x.herd(1, 300, 1, 0);
        x.days(4);
        // 61 on the third stage: 3 of 40 and the only one of 1; 62 on the fourth: 2 of 37.
        int[] left = {0, 0, 0, 4, 2};
        for (int stance = 0; stance < left.length; stance++) {
            CHECKS.due("at(" + stance + ", 4)", x.at(stance, 4), left[stance]);
        }
    }

    private static void aboutAsked() {
        CHECKS.says("6: bytes on the TAPE. NONE for another what.");
        DroveRoads x = new DroveRoads();
        Scenes.busy(x);
        CHECKS.due("about(6)", x.about(6), 24);
        for (int what : new int[] {-1, 7, LEAST, GREATEST}) {
            CHECKS.due("about(" + what + ")", x.about(what), -1);
        }
    }

    private static void aboutCounts() {
        CHECKS.says("What 0: the DAY, 1: STANCES, 2: HERDS, 3: LETTERS, 4: BILLS, 5: PASSINGS, 6: bytes on the TAPE.");
        DroveRoads x = new DroveRoads();
        for (int k = 0; k < 70; k++) {
            x.stance(1);
            x.letter(1);
            x.bill(1, 0, 0);
            x.pass(0, 0, 1, 0);
            x.feed(k, k, k, k, k);
        }
        for (int k = 0; k < 70; k++) {
            x.herd(1, 100, 1, 0);
        }
        x.days(400);
        int[] full = {400, 10, 6, 30, 20, 60, 500};
        for (int what = 0; what < full.length; what++) {
            CHECKS.due("about(" + what + ") when full", x.about(what), full[what]);
        }
    }

    private static void asksChangeNothing() {
        CHECKS.says("Nothing is promised beyond the answers and state changes described above");
        for (int asked : new int[] {-1, 0, 1, 2, 100, LEAST, GREATEST}) {
            CHECKS.refused("known, of, at, fault, holder, paid, about of " + asked, Scenes::busy, x -> {
                x.known(asked);
                x.of(asked, asked);
                x.at(asked, asked);
                x.fault(asked);
                x.holder(asked, asked, asked);
                x.paid(asked, asked);
                x.about(asked);
                return 0;
            }, 0);
        }
    }
}
