/** Promises 6 and 7: letters and the price known. */
public final class LetterTest {
    private static final Checks CHECKS = new Checks("LetterTest");

    public static void main(String[] args) {
        limits();
        lag();
        laterOnes();
        CHECKS.close();
    }

    private static void limits() {
        DroveRoads x = new DroveRoads();
        for (int wrong : new int[] {-1, 1001, Integer.MIN_VALUE, Integer.MAX_VALUE}) {
            CHECKS.due("letter(" + wrong + ")", x.letter(wrong), -1);
        }
        CHECKS.due("about(3)", x.about(3), 0);
        for (int k = 1; k <= 30; k++) {
            CHECKS.due("letter " + k, x.letter(k == 1 ? 1000 : k == 2 ? 0 : k), k);
        }
        CHECKS.due("a 31st letter", x.letter(5), -1);
        CHECKS.due("known(1)", x.known(1), 30);
        for (int stance : new int[] {-1, 2, Integer.MIN_VALUE, Integer.MAX_VALUE}) {
            CHECKS.due("known(" + stance + ")", x.known(stance), -1);
        }
    }

    private static void lag() {
        DroveRoads x = new DroveRoads();
        x.first(1);
        x.stance(30);
        x.stance(10);
        x.stance(30);
        x.stance(10);
        x.letter(9);
        // Miles to the fair: 81, 80, 50, 40, 10, 0.
        int[][] known = {{0, 0, 0, 0, 0, 9}, {0, 0, 0, 9, 9, 9}, {0, 9, 9, 9, 9, 9}, {9, 9, 9, 9, 9, 9}};
        for (int day = 0; day < known.length; day++) {
            for (int stance = 0; stance < 6; stance++) {
                CHECKS.due("day " + day + " known(" + stance + ")", x.known(stance), known[day][stance]);
            }
            x.days(1);
        }
    }

    private static void laterOnes() {
        DroveRoads x = new DroveRoads();
        x.first(30);
        x.stance(30);
        CHECKS.due("none", x.known(2), 0);
        x.letter(5);
        x.days(1);
        x.letter(6);
        x.letter(0);
        CHECKS.due("the first is at 1", x.known(1), 5);
        CHECKS.due("none is at 0", x.known(0), 0);
        CHECKS.due("the latest is at the fair", x.known(2), 0);
        x.days(1);
        CHECKS.due("the first is at 0", x.known(0), 5);
        CHECKS.due("the latest is at 1", x.known(1), 0);
        x.days(1);
        CHECKS.due("the latest is at 0", x.known(0), 0);
    }
}
