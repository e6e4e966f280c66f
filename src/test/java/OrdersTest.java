/** Promises 8 to 11 and the orders' language: the tape, faults and their places, and what orders reckon. */
public final class OrdersTest {
    private static final Checks CHECKS = new Checks("OrdersTest");
    private static final int LEAST = Integer.MIN_VALUE;
    private static final int GREATEST = Integer.MAX_VALUE;

    public static void main(String[] args) {
        tape();
        bytesOfTheTape();
        ordersAndTape();
        faultAsked();
        noTokens();
        cantStand();
        noNames();
        limits();
        depth();
        blanks();
        values();
        names();
        firstLine();
        eachItsOwn();
        manyOrders();
        CHECKS.close();
    }

    private static void tape() {
        DroveRoads x = new DroveRoads();
        for (int wrong : new int[] {-1, 1, LEAST, GREATEST}) {
            CHECKS.due("end(" + wrong + ") of an empty tape", x.end(wrong), -1);
        }
        CHECKS.due("end(0)", x.end(0), 0);
        for (int k = 1; k <= 25; k++) {
            CHECKS.due("feed " + k, x.feed(1, 2, 3, 4, 5), 20 * k);
        }
        CHECKS.due("a 26th feed", x.feed(1, 2, 3, 4, 5), -1);
        CHECKS.due("about(6)", x.about(6), 500);
        CHECKS.due("end(501)", x.end(501), -1);
        CHECKS.due("end(500)", x.end(500), 500);
        CHECKS.due("end(481)", x.end(481), 481);
        CHECKS.due("feed above 500", x.feed(1, 2, 3, 4, 5), -1);
        CHECKS.due("about(6)", x.about(6), 481);
        CHECKS.due("end(480)", x.end(480), 480);
        CHECKS.due("end(481)", x.end(481), -1);
        CHECKS.due("feed to 500", x.feed(1, 2, 3, 4, 5), 500);
        CHECKS.due("end(0)", x.end(0), 0);
        CHECKS.due("about(6)", x.about(6), 0);
    }

    private static void bytesOfTheTape() {
        DroveRoads x = withHerd();
        String text = "when 1 do rest;when 0 do walk;";
        Checks.type(x, text.substring(0, 17));
        Checks.type(x, "");
        CHECKS.due("end(0) empties", x.about(6), 0);
        Checks.type(x, text.substring(0, 17));
        int more = x.feed(Checks.four(text, 17), Checks.four(text, 21), Checks.four(text, 25), Checks.four(text, 29), 0);
        CHECKS.due("feed behind an end", more, 37);
        CHECKS.due("end(30)", x.end(30), 30);
        CHECKS.due("orders(0)", x.orders(0), 2);
    }

    private static void ordersAndTape() {
        DroveRoads x = withHerd();
        Checks.type(x, "when 1 do rest;");
        for (int herd : new int[] {-1, 1, LEAST, GREATEST}) {
            CHECKS.due("orders(" + herd + ")", x.orders(herd), -2);
            CHECKS.due("the tape stays", x.about(6), 15);
        }
        CHECKS.due("orders(0)", x.orders(0), 1);
        CHECKS.due("the tape is empty", x.about(6), 0);
        CHECKS.due("of(0, 8)", x.of(0, 8), 1);
        CHECKS.due("faulty orders", Checks.orders(x, 0, "when 1 do rest;when"), -1);
        CHECKS.due("the tape is empty", x.about(6), 0);
        CHECKS.due("its orders stay", x.of(0, 8), 1);
        x.days(1);
        CHECKS.due("it rests by them", x.of(0, 3), 0);
        CHECKS.due("no text", x.orders(0), 0);
        CHECKS.due("of(0, 8)", x.of(0, 8), 0);
        x.days(1);
        CHECKS.due("it walks without", x.of(0, 3), 1);
    }

    private static void faultAsked() {
        DroveRoads x = new DroveRoads();
        CHECKS.due("fault(0) at first", x.fault(0), 0);
        CHECKS.due("fault(1) at first", x.fault(1), -1);
        for (int what : new int[] {-1, 2, LEAST, GREATEST}) {
            CHECKS.due("fault(" + what + ")", x.fault(what), -1);
        }
        x.herd(1, 100, 1, 0);
        Checks.orders(x, 0, "when ?");
        CHECKS.due("fault(0)", x.fault(0), 1);
        CHECKS.due("fault(1)", x.fault(1), 5);
        Checks.type(x, "when 1 do walk;");
        x.orders(7);
        CHECKS.due("fault(0) behind a -2", x.fault(0), 1);
        CHECKS.due("fault(1) behind a -2", x.fault(1), 5);
        x.orders(0);
        CHECKS.due("fault(0) without one", x.fault(0), 0);
        CHECKS.due("fault(1) without one", x.fault(1), -1);
    }

    private static void noTokens() {
        faulty("?", 1, 0);
        faulty(" \n ?", 1, 3);
        faulty("\t", 1, 0);
        faulty("\r", 1, 0);
        faulty("\0", 1, 0);
        faulty("\u00e9", 1, 0);
        faulty("\u00ff", 1, 0);
        faulty("When 1 do walk;", 1, 0);
        faulty("when 1234567 do walk;", 1, 5);
        faulty("when 123456 do walk;", 0, -1);
        faulty("when 000000 do walk;", 0, -1);
        faulty("when 0000000 do walk;", 1, 5);
        faulty("when 1x do walk;", 1, 5);
        faulty("when 123do walk;", 1, 5);
        faulty("when abcdefghi do walk;", 1, 5);
        faulty("when abcdefgh do walk;", 3, 5);
        faulty("when 1 abcdefghi", 1, 7);
        faulty("when 1 do sell 1a;", 1, 15);
        faulty("when 1 do sell 1234567;", 1, 15);
        faulty("when 1 do walk;whenwhenw", 1, 15);
        faulty("when 1 do walk!", 1, 14);
        faulty("when 1/2 do walk;", 1, 6);
        faulty("when ( # do walk;", 1, 7);
    }

    private static void cantStand() {
        faulty("day", 2, 0);
        faulty("foo", 2, 0);
        faulty("1", 2, 0);
        faulty(";", 2, 0);
        faulty("when", 2, 4);
        faulty("when  \n", 2, 7);
        faulty("when when", 2, 5);
        faulty("when do walk;", 2, 5);
        faulty("when ; do walk;", 2, 5);
        faulty("when ) do walk;", 2, 5);
        faulty("when () do walk;", 2, 6);
        faulty("when -1 do walk;", 2, 5);
        faulty("when 1 1 do walk;", 2, 7);
        faulty("when 1 foo do walk;", 2, 7);
        faulty("when 1 + do walk;", 2, 9);
        faulty("when 1 + not 1 do walk;", 2, 9);
        faulty("when 1 < not 1 do walk;", 2, 9);
        faulty("when 1 < 2 < 3 do walk;", 2, 11);
        faulty("when 1 not 2 do walk;", 2, 7);
        faulty("when or 1 do walk;", 2, 5);
        faulty("when 1 and or 1 do walk;", 2, 11);
        faulty("when (1 do walk;", 2, 8);
        faulty("when 1) do walk;", 2, 6);
        faulty("when 1", 2, 6);
        faulty("when 1 do", 2, 9);
        faulty("when 1 do ;", 2, 10);
        faulty("when 1 do day;", 2, 10);
        faulty("when 1 do foo;", 2, 10);
        faulty("when 1 do sell;", 2, 14);
        faulty("when 1 do sell day;", 2, 15);
        faulty("when 1 do sell foo;", 2, 15);
        faulty("when 1 do sell (1);", 2, 15);
        faulty("when 1 do walk 1;", 2, 15);
        faulty("when 1 do walk", 2, 14);
        faulty("when 1 do walk; ;", 2, 16);
        faulty("when 1 do walk; foo", 2, 16);
        for (String word : new String[] {"when", "do", "walk", "rest", "sell", "or", "and"}) {
            faulty("when 1+" + word, 2, 7);
        }
    }

    private static void noNames() {
        faulty("when foo do walk;", 3, 5);
        faulty("when a do walk;", 3, 5);
        faulty("when z do walk;", 3, 5);
        faulty("when days do walk;", 3, 5);
        faulty("when da do walk;", 3, 5);
        faulty("when head do walk;", 3, 5);
        faulty("when a ? do walk;", 3, 5);
        faulty("when 1 and not (x) do walk;", 3, 16);
        faulty("when day+grasss<1 do walk;", 3, 9);
        faulty("when day + fair?", 3, 11);
        for (String name : "day heads weight sore grass miles stance price want".split(" ")) {
            faulty("when " + name + " do walk;", 0, -1);
        }
    }

    private static void limits() {
        String line = "when 1 do walk;";
        faulty(line.repeat(8), 0, -1);
        faulty(line.repeat(8) + "  \n", 0, -1);
        faulty(line.repeat(9), 2, 120);
        faulty(line.repeat(8) + " when", 2, 121);
        faulty(line.repeat(8) + "?", 1, 120);
        faulty(line.repeat(8) + "foo", 2, 120);
        String eighty = "when 1" + "+1".repeat(79);
        faulty(eighty + " do walk;", 0, -1);
        faulty(eighty + "+1 do walk;", 2, 165);
        faulty(eighty + "+foo do walk;", 2, 165);
        faulty(eighty + "+? do walk;", 1, 165);
        faulty(eighty + "+(", 2, 166);
        faulty(eighty + "+(day", 2, 166);
        // Those of all lines count together, those of sell do not.
        String forty = "when day" + "+1".repeat(39) + " do sell 5;";
        faulty(forty + forty, 0, -1);
        faulty(forty + forty + "when 1 do rest;", 2, 2 * forty.length() + 5);
        faulty(forty + "when 1" + "+1".repeat(40) + " do rest;", 2, forty.length() + 5 + 80);
        faulty("when 1 do walk;" + " ".repeat(485), 0, -1);
        faulty(" ".repeat(485) + "when 1 do walk;", 0, -1);
        faulty(" ".repeat(486) + "when 1 do walk", 2, 500);
        faulty(" ".repeat(500), 0, -1);
    }

    private static void depth() {
        faulty("when " + "(".repeat(7) + "1" + ")".repeat(7) + " do walk;", 0, -1);
        faulty("when " + "(".repeat(8) + "1" + ")".repeat(8) + " do walk;", 2, 13);
        faulty("when " + "(".repeat(9), 2, 13);
        faulty("when " + "(".repeat(8), 2, 13);
        faulty("when " + "(".repeat(8) + "?", 1, 13);
        faulty("when " + "(".repeat(8) + "foo", 2, 13);
        faulty("when " + "not ".repeat(7) + "1 do walk;", 0, -1);
        faulty("when " + "not ".repeat(8) + "1 do walk;", 2, 5 + 32);
        faulty("when " + "not ".repeat(9) + "1 do walk;", 2, 5 + 32);
        faulty("when " + "not(".repeat(3) + "not 1" + ")".repeat(3) + " do walk;", 0, -1);
        faulty("when " + "not(".repeat(4) + "1" + ")".repeat(4) + " do walk;", 2, 5 + 16);
        // What stands beside a deep one is not within it.
        faulty("when " + "((((((1)))))) + (1) and not not 1 do walk;", 0, -1);
        faulty("when (not 1) and " + "(".repeat(7) + "1" + ")".repeat(7) + " do walk;", 0, -1);
        faulty("when not 1 and " + "(".repeat(7) + "1+(1)" + ")".repeat(7) + " do walk;", 2, 15 + 7 + 3);
        faulty("when not 1 + (((((((1))))))) do walk;", 2, 20);
        faulty("when not 1 + ((((((1)))))) do walk;", 0, -1);
    }

    private static void blanks() {
        faulty("", 0, -1);
        faulty("\n \n", 0, -1);
        faulty("when(1)do walk;", 0, -1);
        faulty("when(1)do sell1;", 0, -1);
        faulty("\nwhen\n1\ndo\nwalk\n;\n", 0, -1);
        faulty("when day<1or day>2and not(sore=1)do sell5;", 1, 9);
        faulty("when day<1 or day>2 and not(sore=1)do sell5;", 0, -1);
        faulty("whenday do walk;", 2, 0);
        faulty("when1 do walk;", 0, -1);
        faulty("when 12 34 do walk;", 2, 8);
        faulty("when (day)sore do walk;", 2, 10);
    }

    private static void values() {
        DroveRoads x = withHerd();
        holds(x, "1", true);
        holds(x, "0", false);
        holds(x, "2-2", false);
        holds(x, "0-1", true);
        holds(x, "10-3-2=5", true);
        holds(x, "10-(3-2)=9", true);
        holds(x, "2+3-4+5=6", true);
        holds(x, "1<2", true);
        holds(x, "2<2", false);
        holds(x, "2>2", false);
        holds(x, "3>2", true);
        holds(x, "0-5<0-4", true);
        holds(x, "(1<2)=1", true);
        holds(x, "(2<1)=0", true);
        holds(x, "(2>1)=1", true);
        holds(x, "(1>2)=0", true);
        holds(x, "(2=2)=1", true);
        holds(x, "(1=2)=0", true);
        holds(x, "(5 and 7)=1", true);
        holds(x, "(5 or 0)=1", true);
        holds(x, "(0 or 0)=0", true);
        holds(x, "(5)=5", true);
        holds(x, "(not 5)=0", true);
        holds(x, "(not 0)=1", true);
        holds(x, "(not not 5)=1", true);
        holds(x, "not 1=2", true);
        holds(x, "not 0+1", false);
        holds(x, "not 1 or 1", true);
        holds(x, "not 0 and 0", false);
        holds(x, "1 or 0 and 0", true);
        holds(x, "(1 or 0) and 0", false);
        holds(x, "0 and 0 or 1", true);
        holds(x, "1 and 1 and 0", false);
        holds(x, "0 or 0 or 3", true);
        holds(x, "1+1 and 2-1", true);
        holds(x, "999999+1>999999", true);
        holds(x, "007=7", true);
        holds(x, "999999+".repeat(40) + "1>" + "999999+".repeat(20) + "999999", true);
        holds(x, "0" + "-999999".repeat(60) + "<0", true);
    }

    private static void names() {
        DroveRoads x = new DroveRoads();
        x.first(17);
        x.stance(23);
        x.grass(0, 100, 7, 200);
        x.grass(1, 5000, 0, 5000);
        x.letter(42);
        x.herd(11, 222, 3, 2);
        x.days(2);
        // On day 2 its grass has grown for the third time when the herd acts.
        holds(x, "day=2 and heads=11 and weight=222 and sore=0 and grass=121 and miles=17 and stance=0", true);
        DroveRoads y = new DroveRoads();
        y.first(17);
        y.stance(23);
        y.grass(1, 5000, 0, 5000);
        y.letter(42);
        y.herd(11, 222, 3, 0);
        y.days(1);
        holds(y, "day=1 and heads=11 and weight=220 and sore=17 and grass=4967 and miles=23 and stance=1", true);
        DroveRoads z = new DroveRoads();
        z.first(17);
        z.stance(23);
        z.letter(42);
        z.herd(11, 222, 3, 0);
        holds(z, "price=0 and want=33", true);
        holds(z, "price=42", true);
    }

    private static void firstLine() {
        DroveRoads x = withHerd();
        CHECKS.due("lines", Checks.orders(x, 0, "when 0 do walk; when day<2 do sell 1; when 2 do rest; when 1 do walk;"), 4);
        x.days(2);
        CHECKS.due("sold one a day", x.of(0, 6), 2);
        x.days(2);
        CHECKS.due("rested then", x.of(0, 6), 2);
        CHECKS.due("and stays", x.of(0, 3), 0);
        CHECKS.due("no line holds", Checks.orders(x, 0, "when 0 do rest;when 1-1 do sell 2;"), 2);
        x.days(1);
        CHECKS.due("walks then", x.of(0, 3), 1);
    }

    private static void eachItsOwn() {
        DroveRoads x = withHerd();
        x.herd(50, 300, 1, 0);
        x.herd(50, 300, 1, 0);
        Checks.orders(x, 0, "when 1 do sell 1;");
        Checks.orders(x, 1, "when 1 do sell 2;");
        Checks.orders(x, 2, "when 1 do sell 3;");
        Checks.orders(x, 1, "when 0 do walk;when 1 do sell 4;");
        CHECKS.due("faulty orders", Checks.orders(x, 2, "when 1 do sell 5;when 1 do sell 6;?"), -1);
        x.days(1);
        CHECKS.due("the first herd", x.of(0, 6), 1);
        CHECKS.due("the second herd", x.of(1, 6), 4);
        CHECKS.due("the third herd", x.of(2, 6), 3);
    }

    private static void manyOrders() {
        DroveRoads x = withHerd();
        String text = "when 0" + "+1-1".repeat(39) + " do walk;when 1 do sell 1;";
        for (int k = 0; k < 20; k++) {
            CHECKS.due("orders again", Checks.orders(x, 0, text), 2);
            x.days(1);
            CHECKS.due("sold so far", x.of(0, 6), k + 1);
        }
    }

    private static DroveRoads withHerd() {
        DroveRoads x = new DroveRoads();
        x.stance(1);
        x.grass(0, 100000, 1000, 100000);
        x.grass(1, 100000, 1000, 100000);
        x.herd(500, 300, 1, 0);
        return x;
    }

    private static void faulty(String text, int fault, int place) {
        DroveRoads x = withHerd();
        int answer = Checks.orders(x, 0, text);
        CHECKS.due("fault(0) of \"" + text + "\"", x.fault(0), fault);
        CHECKS.due("fault(1) of \"" + text + "\"", x.fault(1), place);
        CHECKS.due("orders() is NONE of \"" + text + "\"", answer == -1, fault != 0);
        CHECKS.due("of(0, 8) of \"" + text + "\"", x.of(0, 8), Math.max(answer, 0));
    }

    /** One of the herd is sold if the e holds; it rests if not. */
    private static void holds(DroveRoads x, String e, boolean want) {
        CHECKS.due("lines of " + e, Checks.orders(x, 0, "when " + e + " do sell 1;when 1 do rest;"), 2);
        int sold = x.of(0, 6);
        x.days(1);
        CHECKS.due(e, x.of(0, 6) - sold, want ? 1 : 0);
    }
}
