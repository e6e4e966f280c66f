/** The boundary cases of bills and passings, part 5 of the document, and of promises 18 to 23. */
public final class BillEdgesTest {
    private static final Checks CHECKS = new Checks("BillEdgesTest");
    private static final int LEAST = Checks.LEAST;
    private static final int GREATEST = Checks.GREATEST;

    public static void main(String[] args) {
        twentyBills();
        amount();
        hand();
        due();
        sixtyPassings();
        toAnotherHand();
        dayOfAPassing();
        untoldTheSameDay();
        untoldLater();
        fromTheFirstHand();
        daysUpToD();
        inOrderOfDays();
        manyOrders();
        likeDaysAsTold();
        toldOnK();
        untoldOnK();
        withTheHand();
        paidOnce();
        notBeforeItIsDue();
        dueOnTheLastDay();
        paidToTheHolder();
        billRefused();
        passRefused();
        untellRefused();
        untoldAlready();
        holderAsked();
        holderOfFarDays();
        payRefused();
        paidAsked();
        CHECKS.close();
    }

    private static DroveRoads withBill(int day) {
        DroveRoads x = new DroveRoads();
        x.bill(50, 0, 0);
        x.days(day);
        return x;
    }

    private static void twentyBills() {
        CHECKS.says("BILLS, 20 at most");
        DroveRoads x = new DroveRoads();
        for (int number = 0; number < 20; number++) {
            CHECKS.due("bill " + number, x.bill(number + 1, number % 10, number), number);
            CHECKS.due("bills", x.about(4), number + 1);
        }
        CHECKS.due("a 21st", x.bill(1, 0, 0), -1);
        CHECKS.due("bills", x.about(4), 20);
        CHECKS.due("pay(0)", x.pay(0), 0);
        CHECKS.due("a 21st when one is paid", x.bill(1, 0, 0), -1);
        for (int number = 0; number < 20; number++) {
            CHECKS.due("paid(" + number + ", 0)", x.paid(number, 0), number + 1);
            CHECKS.due("holder(" + number + ", 0, 0)", x.holder(number, 0, 0), number % 10);
        }
        CHECKS.due("paid(20, 0)", x.paid(20, 0), -1);
        CHECKS.due("pass(19, ..)", x.pass(19, 9, 8, 0), 0);
        CHECKS.due("pass(20, ..)", x.pass(20, 9, 8, 0), -1);
    }

    private static void amount() {
        CHECKS.says("an AMOUNT (1 .. 1000000)");
        for (int amount : new int[] {1, 2, 999999, 1000000}) {
            DroveRoads x = new DroveRoads();
            CHECKS.due("a bill of " + amount, x.bill(amount, 0, 0), 0);
            CHECKS.due("its amount", x.paid(0, 0), amount);
        }
        for (int amount : new int[] {0, 1000001, -1, LEAST, GREATEST}) {
            CHECKS.due("a bill of " + amount, new DroveRoads().bill(amount, 0, 0), -1);
        }
    }

    private static void hand() {
        CHECKS.says("made out to a HAND (0 .. 9)");
        for (int hand : new int[] {0, 1, 8, 9}) {
            DroveRoads x = new DroveRoads();
            CHECKS.due("a bill to " + hand, x.bill(1, hand, 0), 0);
            CHECKS.due("its holder", x.holder(0, 0, 0), hand);
            CHECKS.due("a passing from it", x.pass(0, hand, 5, 0), 0);
            CHECKS.due("a passing to it", x.pass(0, 5, hand, 0), 1);
        }
        for (int hand : new int[] {-1, 10, LEAST, GREATEST}) {
            DroveRoads x = new DroveRoads();
            CHECKS.due("a bill to " + hand, x.bill(1, hand, 0), -1);
            x.bill(1, 5, 0);
            CHECKS.due("a passing from it", x.pass(0, hand, 5, 0), -1);
            CHECKS.due("a passing to it", x.pass(0, 5, hand, 0), -1);
        }
    }

    private static void due() {
        CHECKS.says("due on a day (0 .. 100000)");
        for (int day : new int[] {0, 1, 99999, 100000}) {
            DroveRoads x = new DroveRoads();
            CHECKS.due("a bill due on " + day, x.bill(1, 4, day), 0);
            CHECKS.due("paid on day 0", x.pay(0), day == 0 ? 4 : -1);
        }
        for (int day : new int[] {-1, 100001, LEAST, GREATEST}) {
            CHECKS.due("a bill due on " + day, new DroveRoads().bill(1, 4, day), -1);
        }
        DroveRoads late = new DroveRoads();
        late.days(5);
        CHECKS.due("a bill that is due already", late.bill(1, 4, 0), 0);
        CHECKS.due("it is paid", late.pay(0), 4);
    }

    private static void sixtyPassings() {
        CHECKS.says("PASSINGS, 60 at most");
        DroveRoads x = new DroveRoads();
        x.bill(1, 0, 0);
        x.bill(1, 0, 0);
        for (int number = 0; number < 60; number++) {
            CHECKS.due("passing " + number, x.pass(number % 2, number / 2 % 9, number / 2 % 9 + 1, 0), number);
            CHECKS.due("passings", x.about(5), number + 1);
        }
        // Thirty of each bill: the first nine bring it to 9, and none of the others passes on from there.
        CHECKS.due("holder(0, 0, 0)", x.holder(0, 0, 0), 9);
        CHECKS.due("holder(1, 0, 0)", x.holder(1, 0, 0), 9);
        CHECKS.due("a 61st", x.pass(0, 9, 8, 0), -1);
        CHECKS.due("passings", x.about(5), 60);
        CHECKS.due("untell(59)", x.untell(59), true);
        CHECKS.due("a 61st when one is untold", x.pass(0, 9, 8, 0), -1);
        CHECKS.due("passings", x.about(5), 60);
    }

    private static void toAnotherHand() {
        CHECKS.says("a BILL passed from a HAND to another one");
        for (int hand = 0; hand <= 9; hand++) {
            CHECKS.due("from " + hand + " to it", withBill(0).pass(0, hand, hand, 0), -1);
        }
        CHECKS.due("from 0 to 1", withBill(0).pass(0, 0, 1, 0), 0);
        CHECKS.due("from 9 to 8", withBill(0).pass(0, 9, 8, 0), 0);
    }

    private static void dayOfAPassing() {
        CHECKS.says("on a day (from 0 on, not after now)");
        for (int now : new int[] {0, 1, 6}) {
            CHECKS.due("on day 0, now " + now, withBill(now).pass(0, 0, 1, 0), 0);
            CHECKS.due("on day -1, now " + now, withBill(now).pass(0, 0, 1, -1), -1);
            CHECKS.due("now " + now, withBill(now).pass(0, 0, 1, now), 0);
            CHECKS.due("after now " + now, withBill(now).pass(0, 0, 1, now + 1), -1);
            CHECKS.due("far ahead", withBill(now).pass(0, 0, 1, GREATEST), -1);
            CHECKS.due("long ago", withBill(now).pass(0, 0, 1, LEAST), -1);
        }
    }

    private static void untoldTheSameDay() {
        CHECKS.says("one may be UNTOLD later (or the same day)");
        DroveRoads x = withBill(3);
        x.pass(0, 0, 1, 2);
        CHECKS.due("known", x.holder(0, 3, 3), 1);
        CHECKS.due("untold the same day", x.untell(0), true);
        for (int k = 2; k <= 4; k++) {
            CHECKS.due("as known on " + k, x.holder(0, 3, k), 0);
        }
    }

    private static void untoldLater() {
        CHECKS.says("one may be UNTOLD later (or the same day)");
        DroveRoads x = withBill(3);
        x.pass(0, 0, 1, 2);
        x.days(4);
        CHECKS.due("untold later", x.untell(0), true);
        int[] known = {0, 0, 0, 1, 1, 1, 1, 0, 0};
        for (int k = 0; k < known.length; k++) {
            CHECKS.due("as known on " + k, x.holder(0, 9, k), known[k]);
        }
    }

    private static void fromTheFirstHand() {
        CHECKS.says("from the HAND to which it is made out on");
        DroveRoads x = new DroveRoads();
        x.bill(1, 6, 100000);
        CHECKS.due("without passings", x.holder(0, 0, 0), 6);
        x.bill(1, 7, 0);
        x.pass(1, 7, 2, 0);
        CHECKS.due("with passings of another bill", x.holder(0, 0, 0), 6);
        CHECKS.due("the other bill", x.holder(1, 0, 0), 2);
    }

    private static void daysUpToD() {
        CHECKS.says("by the PASSINGS of days up to d");
        DroveRoads x = withBill(9);
        x.pass(0, 0, 1, 0);
        x.pass(0, 1, 2, 4);
        x.pass(0, 2, 3, 9);
        int[] holders = {0, 1, 1, 1, 1, 2, 2, 2, 2, 2, 3, 3};
        for (int k = 0; k < holders.length; k++) {
            CHECKS.due("at the end of day " + (k - 1), x.holder(0, k - 1, 9), holders[k]);
        }
    }

    private static void inOrderOfDays() {
        CHECKS.says("in order of their days (of like ones as they were told)");
        DroveRoads x = withBill(9);
        x.pass(0, 2, 3, 6);
        x.pass(0, 1, 2, 5);
        CHECKS.due("not with those hands", x.holder(0, 9, 9), 0);
        x.pass(0, 0, 1, 4);
        CHECKS.due("the last told is the first", x.holder(0, 9, 9), 3);
        CHECKS.due("up to day 5", x.holder(0, 5, 9), 2);
        x.days(1);
        x.pass(0, 0, 7, 3);
        CHECKS.due("told a day later, of a day ahead", x.holder(0, 10, 10), 7);
        CHECKS.due("as known the day ahead", x.holder(0, 10, 9), 3);
    }

    /** Each row has the days of passings from 0 to 1, from 1 to 2, .. in the order in which they are told. */
    private static void manyOrders() {
        CHECKS.says("in order of their days (of like ones as they were told)");
        int[][] rows = {{3, 5, 4, 1, 2}, {5, 3, 4, 2, 1}, {1, 3, 2, 5, 4}, {2, 2, 1, 1, 3}, {4, 4, 4, 1, 1},
            {0, 5, 1, 4, 2}, {5, 5, 0, 0, 5}, {1, 2, 3, 4, 5}, {5, 4, 3, 2, 1}};
        for (int[] row : rows) {
            DroveRoads x = withBill(5);
            for (int k = 0; k < row.length; k++) {
                x.pass(0, k, k + 1, row[k]);
            }
            for (int d = 0; d <= 5; d++) {
                CHECKS.due("forward, at the end of " + d, x.holder(0, d, 5), holder(row, d, false));
            }
            DroveRoads y = withBill(5);
            for (int k = row.length - 1; k >= 0; k--) {
                y.pass(0, k, k + 1, row[k]);
            }
            for (int d = 0; d <= 5; d++) {
                CHECKS.due("backward, at the end of " + d, y.holder(0, d, 5), holder(row, d, true));
            }
        }
    }

    /** Day by day, and those of a day as they were told. */
    private static int holder(int[] row, int d, boolean backward) {
        int hand = 0;
        for (int day = 0; day <= d; day++) {
            for (int n = 0; n < row.length; n++) {
                int k = backward ? row.length - 1 - n : n;
                hand = row[k] == day && hand == k ? k + 1 : hand;
            }
        }
        return hand;
    }

    private static void likeDaysAsTold() {
        CHECKS.says("(of like ones as they were told)");
        DroveRoads x = withBill(9);
        x.pass(0, 1, 2, 5);
        x.pass(0, 0, 1, 5);
        CHECKS.due("told in another order", x.holder(0, 9, 9), 1);
        x.pass(0, 1, 2, 5);
        CHECKS.due("told once more", x.holder(0, 9, 9), 2);
        x.pass(0, 0, 8, 5);
        CHECKS.due("it is there no more", x.holder(0, 9, 9), 2);
        x.days(1);
        x.pass(0, 2, 6, 5);
        CHECKS.due("told a day later", x.holder(0, 10, 10), 6);
    }

    private static void toldOnK() {
        CHECKS.says("of those TOLD on k or before");
        DroveRoads x = withBill(5);
        x.pass(0, 0, 1, 2);
        x.days(1);
        x.pass(0, 1, 2, 2);
        int[] known = {0, 0, 0, 0, 0, 1, 2, 2};
        for (int k = 0; k < known.length; k++) {
            CHECKS.due("as known on " + k, x.holder(0, 2, k), known[k]);
        }
    }

    private static void untoldOnK() {
        CHECKS.says("not UNTOLD on k or before");
        DroveRoads x = withBill(0);
        x.pass(0, 0, 1, 0);
        x.pass(0, 1, 2, 0);
        x.days(1);
        x.untell(1);
        x.days(1);
        x.untell(0);
        int[] known = {2, 1, 0, 0};
        for (int k = 0; k < known.length; k++) {
            CHECKS.due("as known on " + k, x.holder(0, 2, k), known[k]);
        }
    }

    private static void withTheHand() {
        CHECKS.says("each passes it on if it is with the HAND from which that one passes");
        DroveRoads x = withBill(3);
        x.pass(0, 5, 6, 0);
        CHECKS.due("not with 5", x.holder(0, 3, 3), 0);
        x.pass(0, 0, 5, 1);
        CHECKS.due("with 5 too late", x.holder(0, 3, 3), 5);
        x.pass(0, 0, 9, 2);
        CHECKS.due("with 0 no more", x.holder(0, 3, 3), 5);
        x.pass(0, 5, 0, 2);
        CHECKS.due("back to 0", x.holder(0, 3, 3), 0);
        x.pass(0, 0, 9, 3);
        CHECKS.due("on from 0 again", x.holder(0, 3, 3), 9);
        x.untell(1);
        CHECKS.due("without the way to 5", x.holder(0, 3, 3), 9);
        CHECKS.due("which is taken on day 2 then", x.holder(0, 2, 3), 9);
        CHECKS.due("and not on day 1", x.holder(0, 1, 3), 0);
    }

    private static void paidOnce() {
        CHECKS.says("A BILL is PAID once");
        DroveRoads x = withBill(0);
        CHECKS.due("pay(0)", x.pay(0), 0);
        x.days(2);
        x.pass(0, 0, 3, 2);
        CHECKS.due("pay(0) again", x.pay(0), -1);
        CHECKS.due("paid on", x.paid(0, 1), 0);
        CHECKS.due("paid to", x.paid(0, 2), 0);
    }

    private static void notBeforeItIsDue() {
        CHECKS.says("on a DAY not before it is due");
        DroveRoads x = new DroveRoads();
        for (int bill = 0; bill < 5; bill++) {
            x.bill(10, bill, bill + 2);
        }
        x.days(4);
        int[] want = {0, 1, 2, -1, -1};
        for (int bill = 0; bill < 5; bill++) {
            CHECKS.due("pay(" + bill + ") on day 4", x.pay(bill), want[bill]);
            CHECKS.due("paid on", x.paid(bill, 1), want[bill] < 0 ? -1 : 4);
            CHECKS.due("paid to", x.paid(bill, 2), want[bill]);
        }
        x.days(1);
        CHECKS.due("pay(3) on day 5", x.pay(3), 3);
        CHECKS.due("pay(4) on day 5", x.pay(4), -1);
    }

    private static void dueOnTheLastDay() {
        CHECKS.says("due on a day (0 .. 100000)");
        DroveRoads x = new DroveRoads();
        x.bill(1, 4, 100000);
        for (int k = 0; k < 249; k++) {
            x.days(400);
        }
        x.days(399);
        CHECKS.due("on day 99999", x.pay(0), -1);
        x.days(400);
        CHECKS.due("a passing on day 100000", x.pass(0, 4, 5, 100000), 0);
        CHECKS.due("a passing on day 100001", x.pass(0, 4, 5, 100001), -1);
        CHECKS.due("on day 100000", x.pay(0), 5);
        CHECKS.due("paid on", x.paid(0, 1), 100000);
        CHECKS.due("paid to", x.paid(0, 2), 5);
    }

    private static void paidToTheHolder() {
        CHECKS.says("to the HOLDER at the end of that DAY, as known then");
        DroveRoads x = withBill(4);
        x.bill(60, 0, 0);
        x.pass(0, 0, 1, 3);
        x.pass(0, 1, 2, 4);
        CHECKS.due("by a passing of the day", x.pay(0), 2);
        x.pass(1, 0, 1, 4);
        x.pass(1, 1, 2, 4);
        x.untell(3);
        CHECKS.due("without one untold on the day", x.pay(1), 1);
        x.days(1);
        x.pass(0, 0, 9, 2);
        x.pass(1, 0, 9, 2);
        CHECKS.due("another holder is known later", x.holder(0, 4, 5), 9);
        CHECKS.due("as it was known then", x.paid(0, 2), 2);
        CHECKS.due("as it was known then", x.paid(1, 2), 1);
    }

    private static void billRefused() {
        CHECKS.says("A BILL: its number; NONE, doing nothing, if it can't be, or there are 20.");
        int[][] wrong = {{0, 1, 1}, {1000001, 1, 1}, {LEAST, 1, 1}, {GREATEST, 1, 1}, {1, -1, 1}, {1, 10, 1},
            {1, LEAST, 1}, {1, GREATEST, 1}, {1, 1, -1}, {1, 1, 100001}, {1, 1, LEAST}, {1, 1, GREATEST}};
        for (int[] w : wrong) {
            String call = "bill(" + w[0] + ", " + w[1] + ", " + w[2] + ")";
            CHECKS.refused(call, Scenes::busy, x -> x.bill(w[0], w[1], w[2]), -1);
        }
        CHECKS.refused("a 21st bill", Scenes::twentyBills, x -> x.bill(1, 1, 1), -1);
    }

    private static void passRefused() {
        CHECKS.says("A PASSING: its number; NONE, doing nothing, if it can't be (from and to are different), or there are 60.");
        int[][] wrong = {{-1, 3, 4, 0}, {2, 3, 4, 0}, {20, 3, 4, 0}, {LEAST, 3, 4, 0}, {GREATEST, 3, 4, 0},
            {0, -1, 4, 0}, {0, 10, 4, 0}, {0, LEAST, 4, 0}, {0, GREATEST, 4, 0},
            {0, 3, -1, 0}, {0, 3, 10, 0}, {0, 3, LEAST, 0}, {0, 3, GREATEST, 0}, {0, 3, 3, 0}, {0, 10, 10, 0},
            {0, 3, 4, -1}, {0, 3, 4, 3}, {0, 3, 4, LEAST}, {0, 3, 4, GREATEST}};
        for (int[] w : wrong) {
            String call = "pass(" + w[0] + ", " + w[1] + ", " + w[2] + ", " + w[3] + ")";
            CHECKS.refused(call, Scenes::busy, x -> x.pass(w[0], w[1], w[2], w[3]), -1);
        }
        CHECKS.refused("a 61st passing", Scenes::sixtyPassings, x -> x.pass(0, 3, 9, 0), -1);
        CHECKS.refused("a passing without bills", x -> { }, x -> x.pass(0, 3, 4, 0), -1);
    }

    private static void untellRefused() {
        CHECKS.says("A PASSING is UNTOLD: true; false if there is none such, or it is so already.");
        for (int passing : new int[] {-1, 4, 59, 60, LEAST, GREATEST}) {
            CHECKS.refused("untell(" + passing + ")", Scenes::busy, x -> x.untell(passing) ? 1 : 0, 0);
        }
        CHECKS.refused("untell(2), untold already", Scenes::busy, x -> x.untell(2) ? 1 : 0, 0);
        CHECKS.refused("untell(60) of 60", Scenes::sixtyPassings, x -> x.untell(60) ? 1 : 0, 0);
        CHECKS.refused("untell(0) of none", Scenes::laid, x -> x.untell(0) ? 1 : 0, 0);
        DroveRoads x = new DroveRoads();
        Scenes.sixtyPassings(x);
        CHECKS.due("untell(0) of 60", x.untell(0), true);
        CHECKS.due("untell(59) of 60", x.untell(59), true);
    }

    private static void untoldAlready() {
        CHECKS.says("or it is so already");
        DroveRoads x = withBill(2);
        x.pass(0, 0, 1, 1);
        x.days(2);
        CHECKS.due("untold on day 4", x.untell(0), true);
        CHECKS.due("and again", x.untell(0), false);
        x.days(3);
        CHECKS.due("and on day 7", x.untell(0), false);
        int[] known = {0, 0, 1, 1, 0, 0, 0, 0, 0};
        for (int k = 0; k < known.length; k++) {
            CHECKS.due("as known on " + k, x.holder(0, 9, k), known[k]);
        }
    }

    private static void holderAsked() {
        CHECKS.says("HOLDER of a BILL at the end of day d, AS KNOWN on day k; NONE if there is none such.");
        DroveRoads x = new DroveRoads();
        CHECKS.due("without bills", x.holder(0, 0, 0), -1);
        Scenes.busy(x);
        for (int bill : new int[] {-1, 2, 19, 20, LEAST, GREATEST}) {
            CHECKS.due("holder(" + bill + ", 2, 2)", x.holder(bill, 2, 2), -1);
        }
        CHECKS.due("holder(0, 2, 2)", x.holder(0, 2, 2), 6);
        CHECKS.due("holder(1, 2, 2)", x.holder(1, 2, 2), 6);
    }

    /** The rule for the HOLDER works for every day, before 0 and after now too. */
    private static void holderOfFarDays() {
        CHECKS.says("AS KNOWN on a day k the HOLDER at the end of a day d");
        DroveRoads x = withBill(2);
        x.pass(0, 0, 1, 0);
        for (int far : new int[] {3, 100000, 100001, GREATEST}) {
            CHECKS.due("at the end of " + far, x.holder(0, far, 2), 1);
            CHECKS.due("as known on " + far, x.holder(0, 2, far), 1);
            CHECKS.due("both " + far, x.holder(0, far, far), 1);
        }
        for (int far : new int[] {-1, LEAST}) {
            CHECKS.due("at the end of " + far, x.holder(0, far, 2), 0);
            CHECKS.due("as known on " + far, x.holder(0, 2, far), 0);
            CHECKS.due("both " + far, x.holder(0, far, far), 0);
        }
    }

    private static void payRefused() {
        CHECKS.says("A BILL is PAID now: to whom; NONE, doing nothing: none such, not due, PAID already.");
        for (int bill : new int[] {-1, 2, 19, 20, LEAST, GREATEST}) {
            CHECKS.refused("pay(" + bill + ")", Scenes::busy, x -> x.pay(bill), -1);
        }
        CHECKS.refused("pay(1), not due", Scenes::busy, x -> x.pay(1), -1);
        CHECKS.refused("pay(0), paid already", BillEdgesTest::paidAndPassed, x -> x.pay(0), -1);
        CHECKS.refused("pay(0) without bills", x -> { }, x -> x.pay(0), -1);
    }

    private static void paidAndPassed(DroveRoads x) {
        Scenes.busy(x);
        x.pay(0);
        x.days(1);
        x.pass(0, 6, 8, 3);
    }

    private static void paidAsked() {
        CHECKS.says("Of a BILL what 0: AMOUNT, 1: the DAY on which it was PAID (NONE), 2: to whom (NONE). NONE if there is none such.");
        DroveRoads x = new DroveRoads();
        CHECKS.due("without bills", x.paid(0, 0), -1);
        x.bill(70, 0, 0);
        CHECKS.due("not paid", x.paid(0, 1), -1);
        CHECKS.due("to nobody", x.paid(0, 2), -1);
        x.pay(0);
        CHECKS.due("paid on day 0", x.paid(0, 1), 0);
        CHECKS.due("to hand 0", x.paid(0, 2), 0);
        for (int what : new int[] {-1, 3, LEAST, GREATEST}) {
            CHECKS.due("paid(0, " + what + ")", x.paid(0, what), -1);
        }
        for (int bill : new int[] {-1, 1, 19, 20, LEAST, GREATEST}) {
            for (int what = 0; what <= 2; what++) {
                CHECKS.due("paid(" + bill + ", " + what + ")", x.paid(bill, what), -1);
            }
        }
    }
}
