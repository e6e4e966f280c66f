import java.io.IOException;
import java.nio.file.Files;
import java.nio.file.Path;
import java.util.ArrayList;
import java.util.List;

/** The examples of README.md stand here too, line by line, so that what it shows is compiled and run. */
public final class ReadmeTest {
    private static final Checks CHECKS = new Checks("ReadmeTest");
    private static final Path README = Path.of("README.md");
    private static final Path SOURCE = Path.of("src/test/java/ReadmeTest.java");
    private static final String BEGIN = "// README begins";
    private static final String END = "// README ends";

    private ReadmeTest() {
    }

    public static void main(String[] args) throws IOException {
        driveHerd();
        giveOrders();
        findBestWay();
        passBill();
        examplesAreTheReadmes();
        everyCallIsTold();
        CHECKS.close();
    }

    private static void driveHerd() {
        // README begins
        DroveRoads road = new DroveRoads();     // two stances, one mile between them
        road.first(10);                         // ten miles to stance 1
        road.stance(20);                        // twenty more to stance 2, which is the fair now
        road.grass(1, 500, 20, 1000);           // grass at stance 1: 500 now, 20 more a day, 1000 at most
        int herd = road.herd(40, 300, 2, 0);    // 40 heads of 300 each, each wanting 2 a day, from day 0 on
        road.letter(80);                        // the price at the fair; it is known elsewhere a day later
        road.days(2);                           // two days pass: the herd walks to stance 1, then to the fair
        int sold = road.of(herd, 6);            // 40: all of them
        int coins = road.of(herd, 4);           // 9440: 40 heads of 295 each, at 80 for 100
        // README ends
        CHECKS.due("the first herd's number", herd, 0);
        CHECKS.due("sold", sold, 40);
        CHECKS.due("coins", coins, 9440);
    }

    private static void giveOrders() {
        DroveRoads road = new DroveRoads();
        int herd = road.herd(40, 300, 2, 0);
        // README begins
        type(road, "when sore > 30 or grass > want do rest; when price > 90 do sell 10;");
        int lines = road.orders(herd);          // 2, and the tape is empty again
        type(road, "when hay > 5 do rest;");
        int refused = road.orders(herd);        // -1: the herd keeps the orders that it had
        int fault = road.fault(0);              // 3: a name that there is not
        int place = road.fault(1);              // 5: it begins at byte 5 of the text
        // README ends
        CHECKS.due("lines", lines, 2);
        CHECKS.due("refused", refused, DroveRoads.NONE);
        CHECKS.due("fault", fault, 3);
        CHECKS.due("place", place, 5);
        CHECKS.due("the orders that it had", road.of(herd, 8), 2);
    }

    // README begins
    static void type(DroveRoads road, String text) {
        byte[] bytes = java.util.Arrays.copyOf(text.getBytes(), (text.length() + 19) / 20 * 20);
        java.nio.IntBuffer fours = java.nio.ByteBuffer.wrap(bytes).asIntBuffer();
        while (fours.hasRemaining()) {
            road.feed(fours.get(), fours.get(), fours.get(), fours.get(), fours.get());
        }
        road.end(text.length());
    }
    // README ends

    private static void findBestWay() {
        // README begins
        DroveRoads road = new DroveRoads();
        road.first(30);
        road.stance(30);
        road.stance(30);                        // three stages of 30 miles
        int herd = road.herd(40, 300, 2, 0);
        int days = road.length(herd, 6);        // 6: the best way of six days at most
        int gain = road.gain(herd, 6);          // -7: 3 for each of three rests, -5, -5 and -6 for the walks
        int first = road.act(herd, 6, 0);       // 1: it walks on its first day
        int third = road.act(herd, 6, 2);       // 0: it rests on its third, being too sore to walk
        int tooFew = road.gain(herd, 4);        // -100000: there is no way of four days
        // README ends
        CHECKS.due("days", days, 6);
        CHECKS.due("gain", gain, -7);
        CHECKS.due("first", first, 1);
        CHECKS.due("third", third, 0);
        CHECKS.due("tooFew", tooFew, -100000);
    }

    private static void passBill() {
        // README begins
        DroveRoads road = new DroveRoads();
        int bill = road.bill(500, 3, 2);        // 500, made out to hand 3, due on day 2
        road.days(2);
        int passing = road.pass(bill, 3, 4, 1); // told today, day 2: hand 3 passed it to hand 4 on day 1
        int then = road.holder(bill, 1, 1);     // 3: who held it at the end of day 1, as known on day 1
        int now = road.holder(bill, 1, 2);      // 4: the same, as known today
        int paidTo = road.pay(bill);            // 4
        // README ends
        CHECKS.due("the first passing's number", passing, 0);
        CHECKS.due("then", then, 3);
        CHECKS.due("now", now, 4);
        CHECKS.due("paidTo", paidTo, 4);
    }

    private static void examplesAreTheReadmes() throws IOException {
        List<String> here = blocks(Files.readAllLines(SOURCE), BEGIN, END);
        List<String> told = blocks(Files.readAllLines(README), "```java", "```");
        CHECKS.holds("there are examples", !here.isEmpty());
        CHECKS.due("examples of README.md", told.size(), here.size());
        for (String example : here) {
            CHECKS.holds("this example stands in README.md:\n" + example, told.contains(example));
        }
    }

    /** The texts between two lines, each as far to the left as it goes. */
    private static List<String> blocks(List<String> lines, String begin, String end) {
        List<String> found = new ArrayList<>();
        StringBuilder block = null;
        for (String line : lines) {
            if (block == null) {
                block = line.strip().equals(begin) ? new StringBuilder() : null;
            } else if (line.strip().equals(end)) {
                found.add(block.toString().stripTrailing().stripIndent());
                block = null;
            } else {
                block.append(line).append('\n');
            }
        }
        return found;
    }

    private static void everyCallIsTold() throws IOException {
        String readme = Files.readString(README);
        for (java.lang.reflect.Method method : DroveRoads.class.getMethods()) {
            if (method.getDeclaringClass() == DroveRoads.class) {
                String call = "`" + method.getName() + "(";
                CHECKS.holds("README.md tells of " + call, readme.contains(call));
            }
        }
    }
}
