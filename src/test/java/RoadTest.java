/** Promises 1 to 4, 14 and 24: the road, its grass, and what the object tells of itself. */
public final class RoadTest {
    private static final Checks CHECKS = new Checks("RoadTest");
    private static final int LEAST = Integer.MIN_VALUE;
    private static final int GREATEST = Integer.MAX_VALUE;

    public static void main(String[] args) {
        newObject();
        stances();
        firstStage();
        herdsFixTheRoad();
        grassOfStances();
        grassGrows();
        about();
        CHECKS.close();
    }

    private static void newObject() {
        DroveRoads x = new DroveRoads();
        CHECKS.due("new about(0)", x.about(0), 0);
        CHECKS.due("new about(1)", x.about(1), 2);
        for (int what = 2; what <= 6; what++) {
            CHECKS.due("new about(" + what + ")", x.about(what), 0);
        }
        CHECKS.due("new at(0, 3)", x.at(0, 3), 1);
        CHECKS.due("new at(1, 3)", x.at(1, 3), 0);
        for (int stance = 0; stance < 2; stance++) {
            for (int what : new int[] {0, 1, 2, 4}) {
                CHECKS.due("new at(" + stance + ", " + what + ")", x.at(stance, what), 0);
            }
        }
        CHECKS.due("NONE", DroveRoads.NONE, -1);
    }

    private static void stances() {
        DroveRoads x = new DroveRoads();
        for (int wrong : new int[] {0, -1, 31, LEAST, GREATEST}) {
            CHECKS.due("stance(" + wrong + ")", x.stance(wrong), -1);
        }
        CHECKS.due("about(1) after wrong ones", x.about(1), 2);
        for (int number = 2; number < 10; number++) {
            CHECKS.due("stance " + number, x.stance(number == 2 ? 1 : 30), number);
        }
        CHECKS.due("an 11th stance", x.stance(5), -1);
        CHECKS.due("about(1) at most", x.about(1), 10);
        CHECKS.due("at(0, 3)", x.at(0, 3), 1 + 1 + 7 * 30);
        CHECKS.due("at(1, 3)", x.at(1, 3), 1 + 7 * 30);
        CHECKS.due("at(2, 3)", x.at(2, 3), 7 * 30);
        CHECKS.due("at(8, 3)", x.at(8, 3), 30);
        CHECKS.due("at(9, 3)", x.at(9, 3), 0);
        CHECKS.due("at(10, 3)", x.at(10, 3), -1);
        CHECKS.due("first with ten", x.first(7), true);
        CHECKS.due("at(0, 3) then", x.at(0, 3), 7 + 1 + 7 * 30);
    }

    private static void firstStage() {
        DroveRoads x = new DroveRoads();
        for (int wrong : new int[] {0, -1, 31, LEAST, GREATEST}) {
            CHECKS.due("first(" + wrong + ")", x.first(wrong), false);
            CHECKS.due("at(0, 3) after a wrong one", x.at(0, 3), 1);
        }
        CHECKS.due("first(30)", x.first(30), true);
        CHECKS.due("at(0, 3)", x.at(0, 3), 30);
        CHECKS.due("first(1)", x.first(1), true);
        CHECKS.due("at(0, 3)", x.at(0, 3), 1);
        CHECKS.due("stance(9)", x.stance(9), 2);
        CHECKS.due("first(4)", x.first(4), true);
        CHECKS.due("at(0, 3)", x.at(0, 3), 13);
        CHECKS.due("at(1, 3)", x.at(1, 3), 9);
    }

    private static void herdsFixTheRoad() {
        DroveRoads x = new DroveRoads();
        x.herd(1, 100, 1, 0);
        CHECKS.due("stance with a herd", x.stance(5), -1);
        CHECKS.due("first with a herd", x.first(5), false);
        x.days(1);
        CHECKS.due("the herd is sold", x.of(0, 0), 0);
        CHECKS.due("stance with an empty herd", x.stance(5), -1);
        CHECKS.due("first with an empty herd", x.first(5), false);
        CHECKS.due("about(1)", x.about(1), 2);
        CHECKS.due("at(0, 3)", x.at(0, 3), 1);
    }

    private static void grassOfStances() {
        DroveRoads x = new DroveRoads();
        x.stance(3);
        CHECKS.due("grass at most", x.grass(0, 100000, 1000, 100000), true);
        CHECKS.due("at(0, 0)", x.at(0, 0), 100000);
        CHECKS.due("at(0, 1)", x.at(0, 1), 1000);
        CHECKS.due("at(0, 2)", x.at(0, 2), 100000);
        CHECKS.due("grass none", x.grass(0, 0, 0, 0), true);
        CHECKS.due("grass full", x.grass(1, 7, 2, 7), true);
        int[][] wrong = {
            {-1, 0, 0, 0}, {2, 0, 0, 0}, {3, 0, 0, 0}, {10, 0, 0, 0}, {GREATEST, 0, 0, 0}, {LEAST, 0, 0, 0},
            {1, -1, 0, 5}, {1, 6, 0, 5}, {1, 0, -1, 5}, {1, 0, 1001, 5}, {1, 0, 0, -1}, {1, 0, 0, 100001},
            {1, LEAST, 0, 5}, {1, GREATEST, 0, GREATEST}, {1, -2, 0, -1}, {1, 0, LEAST, 5},
        };
        for (int[] w : wrong) {
            CHECKS.due("wrong grass", x.grass(w[0], w[1], w[2], w[3]), false);
        }
        CHECKS.due("at(1, 0) stays", x.at(1, 0), 7);
        CHECKS.due("at(1, 1) stays", x.at(1, 1), 2);
        CHECKS.due("at(1, 2) stays", x.at(1, 2), 7);
        CHECKS.due("at(2, 2) of the fair", x.at(2, 2), 0);
        CHECKS.due("a stance more", x.stance(4), 3);
        CHECKS.due("grass where the fair was", x.grass(2, 1, 1, 2), true);
        CHECKS.due("grass at the fair", x.grass(3, 0, 0, 0), false);
        x.herd(1, 100, 1, 5);
        CHECKS.due("grass with herds", x.grass(0, 3, 0, 3), true);
        for (int what : new int[] {-1, 5, LEAST, GREATEST}) {
            CHECKS.due("at(0, " + what + ")", x.at(0, what), -1);
        }
        for (int stance : new int[] {-1, 4, LEAST, GREATEST}) {
            CHECKS.due("at(" + stance + ", 0)", x.at(stance, 0), -1);
        }
    }

    private static void grassGrows() {
        DroveRoads x = new DroveRoads();
        x.grass(0, 10, 40, 100);
        x.days(2);
        CHECKS.due("grown twice", x.at(0, 0), 90);
        x.days(1);
        CHECKS.due("grown to most", x.at(0, 0), 100);
        x.days(5);
        CHECKS.due("stays at most", x.at(0, 0), 100);
        CHECKS.due("none at the fair", x.at(1, 0), 0);
    }

    private static void about() {
        DroveRoads x = new DroveRoads();
        x.stance(2);
        x.herd(1, 100, 1, 9);
        x.herd(1, 100, 1, 9);
        x.letter(1);
        x.letter(2);
        x.letter(3);
        x.bill(1, 0, 0);
        x.bill(1, 0, 0);
        x.bill(1, 0, 0);
        x.bill(1, 0, 0);
        for (int k = 0; k < 5; k++) {
            x.pass(0, 1, 2, 0);
        }
        x.feed(0, 0, 0, 0, 0);
        x.days(8);
        int[] want = {8, 3, 2, 3, 4, 5, 20};
        for (int what = 0; what < want.length; what++) {
            CHECKS.due("about(" + what + ")", x.about(what), want[what]);
        }
        for (int what : new int[] {-1, 7, LEAST, GREATEST}) {
            CHECKS.due("about(" + what + ")", x.about(what), -1);
        }
    }
}
