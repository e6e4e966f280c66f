/** Promises 18 to 23: bills, who holds them as known, and how they are paid. */
public final class BillTest {
    private static final Checks CHECKS = new Checks("BillTest");
    private static final int LEAST = Integer.MIN_VALUE;
    private static final int GREATEST = Integer.MAX_VALUE;

    public static void main(String[] args) {
        newBills();
        passings();
        asKnown();
        orderOfPassings();
        untelling();
        paying();
        CHECKS.close();
    }

    private static void newBills() {
        DroveRoads x = new DroveRoads();
        int[][] wrong = {{0, 0, 0}, {-1, 0, 0}, {1000001, 0, 0}, {1, -1, 0}, {1, 10, 0}, {1, 0, -1}, {1, 0, 100001},
            {LEAST, 0, 0}, {GREATEST, 0, 0}, {1, LEAST, 0}, {1, GREATEST, 0}, {1, 0, LEAST}, {1, 0, GREATEST}};
        for (int[] w : wrong) {
            CHECKS.due("wrong bill", x.bill(w[0], w[1], w[2]), -1);
        }
        CHECKS.due("about(4)", x.about(4), 0);
        CHECKS.due("least bill", x.bill(1, 0, 0), 0);
        CHECKS.due("greatest bill", x.bill(1000000, 9, 100000), 1);
        CHECKS.due("paid(0, 0)", x.paid(0, 0), 1);
        CHECKS.due("paid(1, 0)", x.paid(1, 0), 1000000);
        CHECKS.due("paid(1, 1)", x.paid(1, 1), -1);
        CHECKS.due("paid(1, 2)", x.paid(1, 2), -1);
        CHECKS.due("holder(1, 0, 0)", x.holder(1, 0, 0), 9);
        for (int k = 2; k < 20; k++) {
            CHECKS.due("bill " + k, x.bill(k, 1, 1), k);
        }
        CHECKS.due("a 21st bill", x.bill(1, 1, 1), -1);
        CHECKS.due("about(4)", x.about(4), 20);
        for (int bill : new int[] {-1, 20, LEAST, GREATEST}) {
            CHECKS.due("paid(" + bill + ", 0)", x.paid(bill, 0), -1);
            CHECKS.due("holder(" + bill + ", 0, 0)", x.holder(bill, 0, 0), -1);
            CHECKS.due("pay(" + bill + ")", x.pay(bill), -1);
            CHECKS.due("pass(" + bill + ")", x.pass(bill, 0, 1, 0), -1);
        }
        for (int what : new int[] {-1, 3, LEAST, GREATEST}) {
            CHECKS.due("paid(0, " + what + ")", x.paid(0, what), -1);
        }
    }

    private static void passings() {
        DroveRoads x = new DroveRoads();
        x.bill(5, 0, 0);
        x.days(3);
        int[][] wrong = {{-1, 1, 0}, {10, 1, 0}, {0, -1, 0}, {0, 10, 0}, {4, 4, 0}, {0, 1, -1}, {0, 1, 4},
            {LEAST, 1, 0}, {GREATEST, 1, 0}, {0, LEAST, 0}, {0, GREATEST, 0}, {0, 1, LEAST}, {0, 1, GREATEST}};
        for (int[] w : wrong) {
            CHECKS.due("wrong passing", x.pass(0, w[0], w[1], w[2]), -1);
        }
        CHECKS.due("about(5)", x.about(5), 0);
        for (int k = 0; k < 60; k++) {
            CHECKS.due("passing " + k, x.pass(0, k % 2 == 0 ? 0 : 9, k % 2 == 0 ? 9 : 0, k % 4), k);
        }
        CHECKS.due("a 61st passing", x.pass(0, 0, 1, 0), -1);
        CHECKS.due("about(5)", x.about(5), 60);
        for (int passing : new int[] {-1, 60, LEAST, GREATEST}) {
            CHECKS.due("untell(" + passing + ")", x.untell(passing), false);
        }
        CHECKS.due("untell(59)", x.untell(59), true);
        CHECKS.due("untell(59) again", x.untell(59), false);
    }

    private static void asKnown() {
        DroveRoads x = new DroveRoads();
        x.bill(5, 0, 0);
        x.bill(5, 0, 0);
        x.days(5);
        x.pass(0, 0, 1, 3);
        x.days(5);
        x.pass(0, 1, 2, 10);
        CHECKS.due("before the first", x.holder(0, 2, 10), 0);
        CHECKS.due("on its day", x.holder(0, 3, 10), 1);
        CHECKS.due("before it was told", x.holder(0, 9, 4), 0);
        CHECKS.due("on the day on which it was told", x.holder(0, 9, 5), 1);
        CHECKS.due("the second", x.holder(0, 10, 10), 2);
        CHECKS.due("before the second was told", x.holder(0, 10, 9), 1);
        CHECKS.due("far ahead", x.holder(0, GREATEST, GREATEST), 2);
        CHECKS.due("before all days", x.holder(0, LEAST, GREATEST), 0);
        CHECKS.due("known before all days", x.holder(0, GREATEST, LEAST), 0);
        CHECKS.due("known on day -1", x.holder(0, GREATEST, -1), 0);
        CHECKS.due("another bill", x.holder(1, 10, 10), 0);
    }

    private static void orderOfPassings() {
        DroveRoads x = new DroveRoads();
        x.bill(5, 0, 0);
        x.days(9);
        x.pass(0, 1, 2, 4);
        CHECKS.due("not with that hand", x.holder(0, 9, 9), 0);
        x.pass(0, 0, 1, 4);
        CHECKS.due("told behind on the same day", x.holder(0, 9, 9), 1);
        x.pass(0, 0, 1, 3);
        CHECKS.due("a day ahead", x.holder(0, 9, 9), 2);
        x.pass(0, 0, 7, 3);
        CHECKS.due("told last of like days", x.holder(0, 9, 9), 2);
        x.pass(0, 2, 8, 9);
        CHECKS.due("on the last day", x.holder(0, 9, 9), 8);
        x.pass(0, 2, 0, 5);
        CHECKS.due("in between", x.holder(0, 9, 9), 0);
        x.pass(0, 0, 2, 0);
        CHECKS.due("ahead of all", x.holder(0, 9, 9), 0);
        CHECKS.due("ahead of all at the end of day 0", x.holder(0, 0, 9), 2);
        CHECKS.due("ahead of all at the end of day 4", x.holder(0, 4, 9), 2);
        x.bill(5, 0, 0);
        x.pass(1, 1, 2, 5);
        x.pass(1, 2, 3, 6);
        CHECKS.due("not with those hands", x.holder(1, 9, 9), 0);
        x.pass(1, 0, 1, 4);
        CHECKS.due("all three by their days", x.holder(1, 9, 9), 3);
        CHECKS.due("two of them", x.holder(1, 5, 9), 2);
        CHECKS.due("the other bill is where it was", x.holder(0, 9, 9), 0);
    }

    private static void untelling() {
        DroveRoads x = new DroveRoads();
        x.bill(5, 0, 0);
        x.days(2);
        x.pass(0, 0, 1, 1);
        CHECKS.due("untold the same day", x.untell(0), true);
        CHECKS.due("never known", x.holder(0, 2, 2), 0);
        x.pass(0, 0, 3, 2);
        x.days(4);
        CHECKS.due("untold later", x.untell(1), true);
        CHECKS.due("known on the day ahead", x.holder(0, 6, 5), 3);
        CHECKS.due("not on that day", x.holder(0, 6, 6), 0);
        CHECKS.due("untold already", x.untell(1), false);
        x.days(1);
        CHECKS.due("untold already", x.untell(1), false);
        CHECKS.due("still known on the day ahead", x.holder(0, 6, 5), 3);
    }

    private static void paying() {
        DroveRoads x = new DroveRoads();
        x.bill(50, 4, 3);
        x.bill(60, 5, 0);
        CHECKS.due("due at once", x.pay(1), 5);
        CHECKS.due("on day 0", x.paid(1, 1), 0);
        x.days(2);
        CHECKS.due("not due", x.pay(0), -1);
        CHECKS.due("not paid", x.paid(0, 1), -1);
        CHECKS.due("to nobody", x.paid(0, 2), -1);
        x.days(2);
        x.pass(0, 4, 6, 4);
        CHECKS.due("pay(0)", x.pay(0), 6);
        CHECKS.due("pay(0) again", x.pay(0), -1);
        CHECKS.due("paid on", x.paid(0, 1), 4);
        CHECKS.due("paid to", x.paid(0, 2), 6);
        x.untell(0);
        x.days(1);
        CHECKS.due("passed behind that", x.pass(0, 4, 7, 5), 1);
        CHECKS.due("the holder changes", x.holder(0, 5, 5), 7);
        CHECKS.due("paid to stays", x.paid(0, 2), 6);
        CHECKS.due("paid on stays", x.paid(0, 1), 4);
        CHECKS.due("amount", x.paid(0, 0), 50);
    }
}
