import java.util.Arrays;

/**
 * All that an object tells, and what it does then by the tape and in some days: what two objects that are alike
 * answer alike. It makes 400 calls at most, so that an object may have had a hundred before.
 */
final class Probe {
    private final DroveRoads road;
    private final int stances;
    private final int herds;
    private final int bills;
    private final int[] answers = new int[400];
    private int count = 0;

    private Probe(DroveRoads road) {
        this.road = road;
        stances = road.about(1);
        herds = road.about(2);
        bills = road.about(4);
    }

    static int[] of(DroveRoads road) {
        Probe probe = new Probe(road);
        probe.tellAll();
        probe.readTheTape();
        probe.passDays(1);
        probe.passDays(3);
        probe.payAll();
        return Arrays.copyOf(probe.answers, probe.count);
    }

    private void note(int answer) {
        answers[count] = answer;
        count++;
    }

    private void tellAll() {
        for (int what = 0; what <= 6; what++) {
            note(road.about(what));
        }
        note(road.fault(0));
        note(road.fault(1));
        for (int stance = 0; stance < stances; stance++) {
            for (int what = 0; what <= 4; what++) {
                note(road.at(stance, what));
            }
        }
        for (int herd = 0; herd < herds; herd++) {
            for (int what = 0; what <= 9; what++) {
                note(road.of(herd, what));
            }
            note(road.gain(herd, 30));
        }
        int day = answers[0];
        for (int bill = 0; bill < bills; bill++) {
            note(road.paid(bill, 0));
            note(road.paid(bill, 1));
            note(road.paid(bill, 2));
            note(road.holder(bill, day, day));
        }
    }

    private void readTheTape() {
        note(road.orders(0));
        note(road.fault(0));
        note(road.fault(1));
        note(road.about(6));
    }

    private void passDays(int n) {
        note(road.days(n));
        for (int herd = 0; herd < herds; herd++) {
            for (int what : new int[] {0, 1, 2, 3, 4, 9}) {
                note(road.of(herd, what));
            }
        }
        for (int stance = 0; stance < stances; stance++) {
            note(road.at(stance, 0));
            note(road.known(stance));
        }
    }

    private void payAll() {
        for (int bill = 0; bill < bills; bill++) {
            note(road.pay(bill));
        }
    }
}
