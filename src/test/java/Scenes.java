/** Objects to begin a test with; a scene makes 100 calls at most. */
final class Scenes {
    private Scenes() {
    }

    /** A road without herds, with a letter, a bill and bytes on the tape. */
    static void laid(DroveRoads x) {
        x.first(10);
        x.stance(20);
        x.stance(30);
        x.grass(0, 50, 5, 90);
        x.grass(1, 30, 7, 60);
        x.grass(2, 2, 1, 9);
        x.letter(70);
        x.bill(100, 3, 1);
        Checks.type(x, "when 1");
    }

    /** Two herds on their way, with orders, letters, bills, passings, a fault, and orders on the tape. */
    static void busy(DroveRoads x) {
        laid(x);
        x.bill(200, 4, 9);
        x.herd(30, 200, 2, 0);
        x.herd(5, 300, 1, 1);
        x.end(0);
        Checks.orders(x, 1, "when sore > 9 do rest; when day = 3 do sell 2;");
        x.days(2);
        x.letter(90);
        x.pass(0, 3, 5, 1);
        x.pass(1, 4, 6, 2);
        x.pass(1, 6, 7, 2);
        x.untell(2);
        x.pass(0, 5, 6, 2);
        Checks.orders(x, 0, "when ?");
        Checks.type(x, "when stance = 1 do rest;");
    }

    static void tenStances(DroveRoads x) {
        laid(x);
        for (int k = 4; k < 10; k++) {
            x.stance(k);
        }
    }

    static void sixHerds(DroveRoads x) {
        laid(x);
        for (int k = 0; k < 6; k++) {
            x.herd(10 + k, 200, 2, k);
        }
    }

    static void thirtyLetters(DroveRoads x) {
        laid(x);
        for (int k = 1; k < 30; k++) {
            x.letter(k);
        }
    }

    static void twentyBills(DroveRoads x) {
        laid(x);
        for (int k = 1; k < 20; k++) {
            x.bill(k, k % 10, k);
        }
    }

    /** Each passes the bill on, to and fro. */
    static void sixtyPassings(DroveRoads x) {
        laid(x);
        for (int k = 0; k < 30; k++) {
            x.pass(0, 3, 4, 0);
            x.pass(0, 4, 3, 0);
        }
    }

    /** 481 bytes on the tape: twenty more would be one too many. */
    static void longTape(DroveRoads x) {
        busy(x);
        x.end(0);
        Checks.type(x, "when stance = 1 do rest;" + " ".repeat(457));
    }

    static void fullTape(DroveRoads x) {
        busy(x);
        x.end(0);
        Checks.type(x, "when stance = 1 do rest;" + " ".repeat(476));
    }

    /** A road of so many stages, with all the grass there can be. */
    static DroveRoads green(int... miles) {
        DroveRoads x = bare(miles);
        for (int k = 0; k < miles.length; k++) {
            x.grass(k, 100000, 1000, 100000);
        }
        return x;
    }

    static DroveRoads bare(int... miles) {
        DroveRoads x = new DroveRoads();
        x.first(miles[0]);
        for (int k = 1; k < miles.length; k++) {
            x.stance(miles[k]);
        }
        return x;
    }
}
