/** The boundary cases of a DAY, part 3 of the document: acts, sales, hunger, sores and deaths. */
public final class DayEdgesTest {
    private static final Checks CHECKS = new Checks("DayEdgesTest");

    public static void main(String[] args) {
        byNumber();
        onItsStart();
        withoutHeads();
        firstLineThatHolds();
        noLine();
        sellAllAtMost();
        saleIsCut();
        saleAtWhatIsKnown();
        thoseLeftRest();
        restEases();
        walkWearies();
        walkWithoutWeight();
        aboveSixty();
        footsoreAreCut();
        allFootsore();
        fairIsCut();
        fairPrice();
        noneLeftToEat();
        eatsWhatThereIs();
        eatenIsGone();
        heavyAtMost();
        lightAtLeast();
        belowEighty();
        belowEightyFed();
        deadAreCut();
        nextDay();
        mostCoins();
        CHECKS.close();
    }

    private static void tells(String when, DroveRoads x, int herd, int what, int want) {
        CHECKS.due(when + ", of(" + herd + ", " + what + ")", x.of(herd, what), want);
    }

    /** A herd at stance 0 of a road of one mile that does what its orders say. */
    private static DroveRoads ordered(DroveRoads x, int heads, int weight, String orders) {
        x.herd(heads, weight, 1, x.about(0));
        CHECKS.holds("the orders stand: " + orders, Checks.orders(x, 0, orders) >= 0);
        return x;
    }

    private static void byNumber() {
        CHECKS.says("HERD by HERD, by number");
        DroveRoads x = Scenes.bare(1, 1);
        x.grass(1, 10, 0, 10);
        x.herd(6, 200, 1, 1);
        x.herd(6, 200, 1, 0);
        x.herd(6, 200, 1, 1);
        Checks.orders(x, 1, "when day = 0 do rest;");
        x.days(2);
        // All three come to stance 1 on day 1, and number 0 ahead of those that set out sooner.
        tells("the first", x, 0, 9, 6);
        tells("the second", x, 1, 9, 4);
        tells("the third", x, 2, 9, 0);
    }

    private static void onItsStart() {
        CHECKS.says("each whose START is t or before, which has HEADS");
        DroveRoads x = Scenes.green(1, 1, 1, 1);
        for (int start = 0; start < 4; start++) {
            x.herd(1, 200, 1, start);
        }
        for (int day = 0; day < 4; day++) {
            for (int herd = 0; herd < 4; herd++) {
                tells("day " + day, x, herd, 3, Math.max(0, day - herd));
                tells("day " + day, x, herd, 9, Math.max(0, day - herd));
            }
            x.days(1);
        }
    }

    private static void withoutHeads() {
        CHECKS.says("each whose START is t or before, which has HEADS");
        DroveRoads x = ordered(Scenes.green(30, 30, 30), 4, 200, "when day = 1 do sell 4;");
        x.days(2);
        staysSo("sold on the way", x, 0, 195, 30, 1, 0, 0, 4, 0, 1, 4);
        DroveRoads y = Scenes.green(30, 30);
        y.herd(4, 200, 1, 0);
        y.days(2);
        staysSo("sold at the fair", y, 0, 189, 60, 2, 0, 0, 4, 0, 0, 4);
        DroveRoads z = ordered(Scenes.bare(30), 1, 103, "when day < 6 do rest;");
        z.days(6);
        staysSo("dead", z, 0, 79, 0, 0, 0, 0, 0, 1, 1, 0);
    }

    private static void staysSo(String when, DroveRoads x, int... want) {
        for (int days = 0; days < 3; days++) {
            for (int what = 0; what < want.length; what++) {
                tells(when, x, 0, what, want[what]);
            }
            x.days(1);
        }
    }

    private static void firstLineThatHolds() {
        CHECKS.says("it does the act of the first line of its ORDERS whose e is not 0 (without one: walk)");
        String[] e = {"1", "0-1", "2", "999999", "0-999999"};
        for (String holds : e) {
            DroveRoads x = ordered(Scenes.green(1), 9, 200, "when 0 do sell 1; when " + holds + " do sell 2; when 1 do sell 3;");
            x.days(1);
            tells("when " + holds, x, 0, 6, 2);
        }
        String zeros = "when 0 do sell 1;".repeat(7);
        DroveRoads y = ordered(Scenes.green(1), 9, 200, zeros + "when 1 do sell 2;");
        y.days(1);
        tells("the 8th line", y, 0, 6, 2);
    }

    private static void noLine() {
        CHECKS.says("(without one: walk)");
        for (String orders : new String[] {"", "\n", "when 0 do rest;", "when 0 do rest;".repeat(8), "when 5-5 do sell 1;"}) {
            DroveRoads x = ordered(Scenes.green(1, 1), 9, 200, orders);
            x.days(1);
            tells("by \"" + orders + "\"", x, 0, 3, 1);
            tells("by \"" + orders + "\"", x, 0, 6, 0);
        }
        DroveRoads y = Scenes.green(1, 1);
        y.herd(1, 200, 1, 0);
        y.days(1);
        tells("without orders", y, 0, 3, 1);
    }

    private static void sellAllAtMost() {
        CHECKS.says("sell N: N of its HEADS, all at most, are SOLD here");
        int[][] sales = {{0, 0}, {1, 1}, {9, 9}, {10, 10}, {11, 10}, {999999, 10}};
        for (int[] sale : sales) {
            DroveRoads x = ordered(Scenes.green(1), 10, 200, "when 1 do sell " + sale[0] + ";");
            x.days(1);
            tells("sell " + sale[0], x, 0, 6, sale[1]);
            tells("sell " + sale[0], x, 0, 0, 10 - sale[1]);
            tells("sell " + sale[0], x, 0, 3, 0);
        }
    }

    /** What a sale on the way brings where a price is known. */
    private static int sale(int heads, int weight, int price) {
        DroveRoads x = Scenes.green(1);
        x.letter(price);
        x.days(1);
        ordered(x, 500, weight, "when 1 do sell " + heads + ";");
        x.days(1);
        return x.of(0, 4);
    }

    private static void saleIsCut() {
        CHECKS.says("COINS more by how many * WEIGHT * KNOWN PRICE / 200 (cut)");
        CHECKS.due("199 / 200", sale(1, 199, 1), 0);
        CHECKS.due("200 / 200", sale(1, 200, 1), 1);
        CHECKS.due("399 / 200", sale(1, 399, 1), 1);
        CHECKS.due("400 / 200", sale(1, 400, 1), 2);
        CHECKS.due("3 * 199 / 200", sale(3, 199, 1), 2);
        CHECKS.due("3 * 199 * 3 / 200", sale(3, 199, 3), 8);
        CHECKS.due("no heads", sale(0, 600, 1000), 0);
        CHECKS.due("no price", sale(500, 600, 0), 0);
        CHECKS.due("500 * 600 * 1000 / 200", sale(500, 600, 1000), 1500000);
        DroveRoads x = Scenes.green(1);
        x.letter(1);
        x.days(1);
        ordered(x, 4, 199, "when 1 do sell 1;");
        x.days(4);
        // 199, 202, 205 and 208 / 200, each cut by itself.
        tells("four sales", x, 0, 4, 3);
    }

    private static void saleAtWhatIsKnown() {
        CHECKS.says("COINS more by how many * WEIGHT * KNOWN PRICE / 200");
        DroveRoads x = ordered(Scenes.green(1, 30, 10), 9, 200, "when stance = 1 do sell 1;");
        x.letter(100);
        x.days(1);
        x.letter(500);
        x.days(1);
        // Stance 1 is 40 miles off: on day 1 it knows the letter of day 0.
        tells("day 1", x, 0, 4, 201 * 100 / 200);
        x.days(1);
        tells("day 2", x, 0, 4, 201 * 100 / 200 + 204 * 500 / 200);
    }

    private static void thoseLeftRest() {
        CHECKS.says("those that are left rest");
        int[][] sales = {{0, 5}, {9, 5}, {10, 20}, {11, 20}};
        for (int[] sale : sales) {
            DroveRoads x = ordered(Scenes.green(20, 1), 10, 200, "when stance = 1 do sell " + sale[0] + ";");
            x.days(1);
            tells("walked", x, 0, 2, 20);
            x.days(1);
            tells("sold " + sale[0] + " of 10", x, 0, 2, sale[1]);
        }
    }

    private static void restEases() {
        CHECKS.says("rest: SORE 15 less (0 at least).");
        int[][] cases = {{1, 0}, {14, 0}, {15, 0}, {16, 1}, {30, 15}};
        for (int[] c : cases) {
            for (String act : new String[] {"rest", "sell 0"}) {
                DroveRoads x = ordered(Scenes.green(c[0], 1), 10, 200, "when stance = 1 do " + act + ";");
                x.days(1);
                tells("walked", x, 0, 2, c[0]);
                x.days(1);
                tells(act, x, 0, 2, c[1]);
                x.days(2);
                tells(act + " on", x, 0, 2, 0);
            }
        }
    }

    private static void walkWearies() {
        CHECKS.says("walk: it is at the next STANCE; SORE more by MILES; WEIGHT less by MILES / 5 (cut; 0 at least).");
        int[][] cases = {{1, 0}, {4, 0}, {5, 1}, {9, 1}, {10, 2}, {29, 5}, {30, 6}};
        for (int[] c : cases) {
            DroveRoads x = Scenes.green(c[0], 1);
            x.herd(10, 200, 1, 0);
            x.days(1);
            tells(c[0] + " miles", x, 0, 3, 1);
            tells(c[0] + " miles", x, 0, 2, c[0]);
            tells(c[0] + " miles", x, 0, 1, 200 - c[1] + 1);
        }
    }

    private static void walkWithoutWeight() {
        CHECKS.says("WEIGHT less by MILES / 5 (cut; 0 at least)");
        // It starves from 100 by 4 a day; then it walks 30 miles and finds grass.
        int[][] cases = {{23, 2 + 1}, {24, 0 + 1}, {25, 0 + 1}};
        for (int[] c : cases) {
            DroveRoads x = Scenes.bare(30, 1);
            x.grass(1, 100000, 0, 100000);
            ordered(x, 500, 100, "when day < " + c[0] + " do rest;");
            x.days(c[0]);
            tells("starved", x, 0, 1, 100 - 4 * c[0]);
            x.days(1);
            tells("walked", x, 0, 3, 1);
            tells("walked", x, 0, 1, c[1]);
        }
        DroveRoads y = Scenes.bare(30);
        ordered(y, 500, 100, "when day < 24 do rest;");
        y.letter(1000);
        y.days(25);
        tells("at the fair without weight", y, 0, 1, 0);
        tells("sold for nothing", y, 0, 4, 0);
    }

    private static void aboveSixty() {
        CHECKS.says("If SORE is above 60");
        DroveRoads x = Scenes.green(30, 29, 1, 1, 1, 1);
        x.herd(10, 200, 1, 0);
        x.days(1);
        int[][] days = {{59, 0}, {60, 0}, {61, 1}, {62, 2}};
        for (int[] day : days) {
            x.days(1);
            tells("a walk", x, 0, 2, day[0]);
            tells("at " + day[0], x, 0, 5, day[1]);
        }
    }

    private static void footsoreAreCut() {
        CHECKS.says("HEADS / 20 (cut) + 1 of it, all at most, are LEFT behind, footsore.");
        int[][] cases = {{1, 1}, {2, 1}, {19, 1}, {20, 2}, {39, 2}, {40, 3}, {499, 25}, {500, 26}};
        for (int[] c : cases) {
            DroveRoads x = Scenes.green(30, 30, 1, 1);
            x.herd(c[0], 200, 1, 0);
            x.days(2);
            tells(c[0] + " heads at 60", x, 0, 5, 0);
            x.days(1);
            tells(c[0] + " heads at 61", x, 0, 5, c[1]);
            tells(c[0] + " heads at 61", x, 0, 0, c[0] - c[1]);
            CHECKS.due("at(3, 4)", x.at(3, 4), c[1]);
        }
    }

    private static void allFootsore() {
        CHECKS.says("all at most, are LEFT behind, footsore");
        DroveRoads x = Scenes.green(30, 30, 1);
        x.letter(1000);
        x.herd(1, 200, 1, 0);
        x.days(3);
        tells("the only one", x, 0, 0, 0);
        tells("the only one", x, 0, 5, 1);
        tells("none comes to the fair", x, 0, 6, 0);
        tells("none comes to the fair", x, 0, 4, 0);
        tells("but the herd is there", x, 0, 3, 3);
        x.days(2);
        tells("later", x, 0, 5, 1);
        CHECKS.due("at(3, 4)", x.at(3, 4), 1);
    }

    /** What a herd brings that comes to the fair at once. */
    private static int brings(int miles, int heads, int weight, int price) {
        DroveRoads x = Scenes.bare(miles);
        x.herd(heads, weight, 1, 0);
        x.letter(price);
        x.days(1);
        tells("all are sold", x, 0, 6, heads);
        tells("all are sold", x, 0, 0, 0);
        return x.of(0, 4);
    }

    private static void fairIsCut() {
        CHECKS.says("At THE FAIR all its HEADS are SOLD: COINS more by how many * WEIGHT * PRICE / 100 (cut)");
        CHECKS.due("99 / 100", brings(5, 1, 100, 1), 0);
        CHECKS.due("100 / 100", brings(4, 1, 100, 1), 1);
        CHECKS.due("199 / 100", brings(1, 1, 199, 1), 1);
        CHECKS.due("200 / 100", brings(1, 1, 200, 1), 2);
        CHECKS.due("3 * 150 / 100", brings(1, 3, 150, 1), 4);
        CHECKS.due("3 * 151 * 7 / 100", brings(1, 3, 151, 7), 31);
        CHECKS.due("no price", brings(1, 500, 600, 0), 0);
        CHECKS.due("500 * 600 * 1000 / 100", brings(1, 500, 600, 1000), 3000000);
    }

    private static void fairPrice() {
        CHECKS.says("PRICE that KNOWN there");
        DroveRoads x = Scenes.green(1, 1);
        x.herd(1, 200, 1, 0);
        x.letter(100);
        x.days(1);
        x.letter(300);
        x.letter(700);
        CHECKS.due("known where it walks from", x.known(1), 100);
        x.days(1);
        tells("sold", x, 0, 4, 201 * 700 / 100);
    }

    private static void noneLeftToEat() {
        CHECKS.says("If it has HEADS still, it eats at its STANCE");
        DroveRoads sold = ordered(Scenes.green(1, 1), 5, 200, "when 1 do sell 5;");
        sold.days(1);
        tells("all sold", sold, 0, 9, 0);
        tells("all sold", sold, 0, 1, 200);
        CHECKS.due("grass", sold.at(0, 0), 100000);
        DroveRoads left = Scenes.bare(30, 30, 1, 1);
        left.grass(3, 50, 0, 50);
        left.herd(1, 200, 1, 0);
        left.days(3);
        // Two days of hunger, and three walks: 200 - 6 - 4 - 6 - 4 - 0.
        tells("all left", left, 0, 1, 180);
        tells("all left", left, 0, 9, 0);
        CHECKS.due("grass", left.at(3, 0), 50);
        DroveRoads fair = Scenes.green(1);
        fair.herd(5, 200, 1, 0);
        fair.days(1);
        tells("at the fair", fair, 0, 9, 0);
        tells("at the fair", fair, 0, 1, 200);
    }

    private static void eatsWhatThereIs() {
        CHECKS.says("HEADS * NEED, or all GRASS there is. If that was enough, WEIGHT is 3 more if it did not walk, else 1");
        int[][] cases = {{0, 0, 96, 96}, {1, 1, 96, 96}, {19, 19, 96, 96}, {20, 20, 103, 101}, {21, 20, 103, 101}};
        for (int[] c : cases) {
            DroveRoads rests = Scenes.bare(1, 1);
            rests.grass(0, c[0], 0, 100);
            rests.herd(10, 100, 2, 0);
            Checks.orders(rests, 0, "when 1 do rest;");
            rests.days(1);
            tells("rests with " + c[0], rests, 0, 9, c[1]);
            tells("rests with " + c[0], rests, 0, 1, c[2]);
            CHECKS.due("left of " + c[0], rests.at(0, 0), c[0] - c[1]);
            DroveRoads walks = Scenes.bare(1, 1);
            walks.grass(1, c[0], 0, 100);
            walks.herd(10, 100, 2, 0);
            walks.days(1);
            tells("walks to " + c[0], walks, 0, 9, c[1]);
            tells("walks to " + c[0], walks, 0, 1, c[3]);
            CHECKS.due("left of " + c[0], walks.at(1, 0), c[0] - c[1]);
        }
        DroveRoads sells = Scenes.bare(1);
        sells.grass(0, 14, 0, 100);
        sells.herd(10, 100, 2, 0);
        Checks.orders(sells, 0, "when 1 do sell 3;");
        sells.days(1);
        tells("enough for those that are left", sells, 0, 1, 103);
    }

    private static void eatenIsGone() {
        CHECKS.says("9: what it ate so far");
        DroveRoads x = Scenes.bare(1);
        x.grass(0, 25, 6, 30);
        x.herd(10, 100, 1, 0);
        Checks.orders(x, 0, "when 1 do rest;");
        int[][] days = {{20, 10}, {16, 20}, {12, 30}, {8, 40}, {4, 50}, {0, 60}, {0, 66}, {0, 72}};
        for (int[] day : days) {
            x.days(1);
            CHECKS.due("grass", x.at(0, 0), day[0]);
            tells("ate", x, 0, 9, day[1]);
        }
    }

    private static void heavyAtMost() {
        CHECKS.says("WEIGHT is 3 more if it did not walk, else 1 (700 at most)");
        int[][] rests = {{597, 696, 699}, {598, 697, 700}, {599, 698, 700}, {600, 699, 700}};
        for (int[] c : rests) {
            DroveRoads x = ordered(Scenes.green(1, 1), 1, c[0], "when day < 40 do rest;");
            x.days(33);
            tells("33 days", x, 0, 1, c[1]);
            x.days(1);
            tells("34 days", x, 0, 1, c[2]);
            x.days(6);
            tells("40 days", x, 0, 1, 700);
            x.days(1);
            tells("a walk at 700", x, 0, 1, 700);
        }
        int[][] walks = {{599, 698, 699}, {600, 699, 700}};
        for (int[] c : walks) {
            DroveRoads x = ordered(Scenes.green(1, 1), 1, c[0], "when day < 33 do rest;");
            x.days(33);
            tells("33 days", x, 0, 1, c[1]);
            x.days(1);
            tells("a walk", x, 0, 1, c[2]);
        }
    }

    private static void lightAtLeast() {
        CHECKS.says("else 4 less (0 at least)");
        int[][] cases = {{100, 4, 0}, {101, 5, 1}, {102, 6, 2}, {103, 7, 3}};
        for (int[] c : cases) {
            DroveRoads x = ordered(Scenes.bare(1, 1), 500, c[0], "when day < 30 do rest;");
            x.days(24);
            tells("24 days", x, 0, 1, c[1]);
            x.days(1);
            tells("25 days", x, 0, 1, c[2]);
            x.days(1);
            tells("26 days", x, 0, 1, 0);
            x.days(1);
            tells("27 days", x, 0, 1, 0);
            CHECKS.holds("some live", x.of(0, 0) > 0);
        }
    }

    private static void belowEighty() {
        CHECKS.says("If WEIGHT is below 80 then");
        for (int weight : new int[] {100, 101}) {
            DroveRoads x = ordered(Scenes.bare(1), 10, weight, "when 1 do rest;");
            x.days(5);
            tells("five days", x, 0, 1, weight - 20);
            tells("five days", x, 0, 7, 0);
            x.days(1);
            tells("six days", x, 0, 7, 2);
        }
        DroveRoads y = ordered(Scenes.bare(1), 10, 103, "when 1 do rest;");
        y.days(5);
        tells("83", y, 0, 7, 0);
        y.days(1);
        tells("79", y, 0, 1, 79);
        tells("79", y, 0, 7, 2);
        y.days(1);
        tells("75", y, 0, 7, 3);
    }

    private static void belowEightyFed() {
        CHECKS.says("If WEIGHT is below 80 then, HEADS / 10 (cut) + 1 of it, all at most, are DEAD.");
        int[][] cases = {{100, 76, 79, 5}, {101, 77, 80, 3}};
        for (int[] c : cases) {
            DroveRoads x = ordered(Scenes.bare(1), 20, c[0], "when 1 do rest;");
            x.days(6);
            tells("six days of hunger", x, 0, 1, c[1]);
            tells("six days of hunger", x, 0, 7, 3);
            x.grass(0, 100, 0, 100);
            x.days(1);
            tells("fed", x, 0, 1, c[2]);
            tells("fed", x, 0, 7, c[3]);
        }
        DroveRoads y = Scenes.bare(30, 1);
        ordered(y, 20, 101, "when day < 3 do rest;");
        y.days(4);
        // 89 - 6 - 4: the walk counts too.
        tells("walked", y, 0, 1, 79);
        tells("walked", y, 0, 7, 3);
    }

    private static void deadAreCut() {
        CHECKS.says("HEADS / 10 (cut) + 1 of it, all at most, are DEAD");
        int[][] cases = {{1, 1}, {2, 1}, {9, 1}, {10, 2}, {19, 2}, {20, 3}, {499, 50}, {500, 51}};
        for (int[] c : cases) {
            DroveRoads x = ordered(Scenes.bare(1), c[0], 103, "when 1 do rest;");
            x.days(6);
            tells(c[0] + " heads", x, 0, 7, c[1]);
            tells(c[0] + " heads", x, 0, 0, c[0] - c[1]);
        }
        DroveRoads y = ordered(Scenes.bare(1), 2, 103, "when 1 do rest;");
        y.days(9);
        tells("all are dead", y, 0, 7, 2);
        tells("no weight is lost then", y, 0, 1, 75);
    }

    private static void nextDay() {
        CHECKS.says("(3) The DAY is t + 1.");
        DroveRoads x = ordered(Scenes.green(1), 9, 200, "when day = 1 do sell 4; when 1 do rest;");
        for (int day = 0; day < 4; day++) {
            CHECKS.due("the day", x.about(0), day);
            tells("day " + day, x, 0, 6, day > 1 ? 4 : 0);
            x.days(1);
        }
    }

    /** The greatest COINS that a herd can have are far below the bound, so that it is never met. */
    private static void mostCoins() {
        CHECKS.says("a HERD has 2000000000 at most (what is above is lost)");
        DroveRoads x = ordered(Scenes.green(1), 500, 600, "when weight < 700 do rest;");
        x.letter(1000);
        x.days(40);
        tells("500 * 700 * 1000 / 100", x, 0, 4, 3500000);
        DroveRoads y = Scenes.green(1);
        y.letter(1000);
        ordered(y, 500, 600, "when weight < 700 do rest; when 1 do sell 499;");
        y.days(40);
        tells("499 on the way, the last one likewise", y, 0, 4, 499 * 700 * 5 + 700 * 5);
    }
}
