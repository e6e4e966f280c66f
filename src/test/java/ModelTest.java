import java.util.Random;

/** All promises: runs of chance calls, the same ones each time, on the class and on the model of the document. */
public final class ModelTest {
    private static final Checks CHECKS = new Checks("ModelTest");
    private static final int RUNS = 1500;
    private static final int CALLS = 500;
    private static final int[] EDGES = {-1, 0, 1, 2, 10, 30, 31, 60, 61, 100, 400, 500, 1000, 10000, 100000,
        Integer.MIN_VALUE, Integer.MAX_VALUE, -2, -100000};

    private final Random random;
    private final DroveRoads road = new DroveRoads();
    private final Model model = new Model();
    private int calls = 0;

    private ModelTest(long seed) {
        random = new Random(seed);
    }

    public static void main(String[] args) {
        for (int seed = 1; seed <= RUNS; seed++) {
            new ModelTest(seed).run();
        }
        CHECKS.close();
    }

    private void run() {
        layRoad();
        while (calls < CALLS) {
            step();
        }
    }

    private void due(String call, long got, long want) {
        calls++;
        CHECKS.due(call, got, want);
    }

    private void due(String call, boolean got, boolean want) {
        due(call, got ? 1 : 0, want ? 1 : 0);
    }

    /** Mostly a number in the range, now and then one beside it or far off. */
    private int pick(int least, int most) {
        int chance = random.nextInt(40);
        if (chance == 0) return EDGES[random.nextInt(EDGES.length)];
        if (chance == 1) return least - 1;
        if (chance == 2) return most + 1;
        if (chance == 3) return least;
        if (chance == 4) return most;
        return least + random.nextInt(most - least + 1);
    }

    private void layRoad() {
        int many = random.nextInt(10);
        for (int k = 0; k < many; k++) {
            int miles = random.nextBoolean() ? pick(1, 30) : pick(20, 30);
            due("stance", road.stance(miles), model.stance(miles));
        }
        for (int k = 0; k < 10; k++) grass();
        if (random.nextInt(3) > 0) herd();
    }

    private void step() {
        int what = random.nextInt(34);
        if (what < 6) orders();
        else if (what < 14) bills();
        else if (what < 18) days();
        else if (what < 22) best();
        else if (what < 30) ask();
        else if (what == 30) herd();
        else if (what == 31) tape();
        else if (what == 32) grass();
        else letter();
    }

    private void letter() {
        int price = pick(0, 1000);
        due("letter", road.letter(price), model.letter(price));
        int miles = pick(1, 30);
        due("first", road.first(miles), model.first(miles));
        if (random.nextInt(9) == 0) due("stance", road.stance(miles), model.stance(miles));
    }

    private void grass() {
        int stance = pick(0, 9);
        int most = random.nextBoolean() ? pick(0, 100000) : pick(0, 3000);
        int grass = most > 0 && most < 100000 ? pick(0, most) : 0;
        int grows = pick(0, 1000);
        due("grass", road.grass(stance, grass, grows, most), model.grass(stance, grass, grows, most));
    }

    private void herd() {
        int heads = random.nextBoolean() ? pick(1, 500) : pick(1, 30);
        int weight = pick(100, 600);
        int need = pick(1, 20);
        int start = Math.min(10000, model.about(0) + random.nextInt(5)) - (random.nextInt(9) == 0 ? 3 : 0);
        due("herd", road.herd(heads, weight, need, start), model.herd(heads, weight, need, start));
    }

    private void tape() {
        int a = random.nextInt();
        if (random.nextInt(4) > 0) due("feed", road.feed(a, 1, -1, a, 7), model.feed(a, 1, -1, a, 7));
        int n = pick(0, 60);
        due("end", road.end(n), model.end(n));
    }

    private void orders() {
        String text = random.nextInt(3) == 0 ? broken(text()) : text();
        if (text.length() > 500) text = text.substring(0, 500);
        if (random.nextInt(8) > 0) due("end(0)", road.end(0), model.end(0));
        int before = model.about(6);
        for (int k = 0; k < text.length(); k += 20) {
            int a = Checks.four(text, k);
            int b = Checks.four(text, k + 4);
            int c = Checks.four(text, k + 8);
            int d = Checks.four(text, k + 12);
            int e = Checks.four(text, k + 16);
            due("feed", road.feed(a, b, c, d, e), model.feed(a, b, c, d, e));
        }
        int n = before + text.length();
        due("end", road.end(n), model.end(n));
        int herd = random.nextInt(12) == 0 ? pick(-1, 6) : random.nextInt(Math.max(1, model.about(2)));
        due("orders of " + text, road.orders(herd), model.orders(herd));
        due("fault(0) of " + text, road.fault(0), model.fault(0));
        due("fault(1) of " + text, road.fault(1), model.fault(1));
    }

    private String text() {
        StringBuilder text = new StringBuilder();
        int lines = random.nextInt(10) == 0 ? random.nextInt(11) : 1 + random.nextInt(3);
        for (int k = 0; k < lines; k++) {
            String act = new String[] {"walk", "rest", "rest", "sell " + random.nextInt(40)}[random.nextInt(4)];
            int size = random.nextInt(12) == 0 ? 9 : random.nextInt(4);
            text.append("when ").append(e(size)).append(" do ").append(act).append(random.nextBoolean() ? ";" : " ;\n");
        }
        return text.toString();
    }

    private String e(int size) {
        if (size <= 0) return operand();
        String left = e(size - 1 - random.nextInt(2));
        String right = e(random.nextInt(size));
        switch (random.nextInt(9)) {
            case 0: return left + " or " + right;
            case 1: return left + " and " + right;
            case 2: return "not " + left;
            case 3: return "not(" + left + ")";
            case 4: return "(" + left + ")";
            case 5: return "(" + left + ")" + "<>=".charAt(random.nextInt(3)) + "(" + right + ")";
            case 6: return operand() + " " + "<>=".charAt(random.nextInt(3)) + operand() + "-" + operand();
            default: return "(" + left + ")" + "+-".charAt(random.nextInt(2)) + operand();
        }
    }

    private String operand() {
        String[] names = {"day", "heads", "weight", "sore", "grass", "miles", "stance", "price", "want"};
        int chance = random.nextInt(20);
        if (chance < 13) return names[random.nextInt(names.length)];
        return Integer.toString(random.nextInt(chance == 19 ? 1000000 : chance > 15 ? 300 : 3));
    }

    private String broken(String text) {
        String[] bits = {"", " ", "1", "day", "foo", "when", " do ", ";", "(", ")", "not ", "<", "+", "sell", "A", "\t",
            "9999999", "abcdefghi", "\n", " and ", " or ", "(((((((((", "+1+1+1+1+1+1+1+1+1+1+1+1+1+1+1+1+1+1+1+1",
            "not not not not ", "walk", "\u00c3", "7x", "when 1 do rest;when 1 do rest;when 1 do rest;"};
        int times = 1 + random.nextInt(2);
        for (int k = 0; k < times; k++) {
            int from = random.nextInt(text.length() + 1);
            int to = Math.min(text.length(), from + random.nextInt(4));
            text = text.substring(0, from) + bits[random.nextInt(bits.length)] + text.substring(to);
        }
        return random.nextInt(5) == 0 ? text.substring(0, random.nextInt(text.length() + 1)) : text;
    }

    private void bills() {
        int kind = random.nextInt(6);
        int bill = pick(0, Math.max(0, model.about(4) - 1));
        if (kind == 0) {
            int amount = pick(1, 1000000);
            int hand = pick(0, 9);
            int due = random.nextInt(4) == 0 ? pick(0, 100000) : pick(0, 40);
            due("bill", road.bill(amount, hand, due), model.bill(amount, hand, due));
        } else if (kind < 4) {
            int from = random.nextInt(6) == 0 ? pick(0, 9) : pick(0, 3);
            int to = random.nextInt(6) == 0 ? pick(0, 9) : pick(0, 3);
            int on = model.about(0) - pick(0, 5);
            due("pass", road.pass(bill, from, to, on), model.pass(bill, from, to, on));
        } else if (kind == 4) {
            int passing = pick(0, Math.max(0, model.about(5) - 1));
            due("untell", road.untell(passing), model.untell(passing));
        } else {
            due("pay", road.pay(bill), model.pay(bill));
        }
        int d = model.about(0) - pick(0, 8);
        int k = model.about(0) - pick(0, 8);
        due("holder", road.holder(bill, d, k), model.holder(bill, d, k));
        int what = pick(0, 2);
        due("paid", road.paid(bill, what), model.paid(bill, what));
    }

    private void days() {
        int n = random.nextInt(20) == 0 ? pick(0, 400) : random.nextInt(4) == 0 ? pick(0, 20) : pick(0, 2);
        due("days", road.days(n), model.days(n));
        for (int herd = 0; herd < model.about(2); herd++) {
            int what = random.nextInt(10);
            due("of " + what, road.of(herd, what), model.of(herd, what));
        }
    }

    private void best() {
        int herd = pick(0, Math.max(0, model.about(2) - 1));
        int d = random.nextBoolean() ? pick(1, 60) : pick(1, 25);
        int k = pick(0, Math.max(1, Math.min(60, d)));
        due("gain", road.gain(herd, d), model.gain(herd, d));
        due("length", road.length(herd, d), model.length(herd, d));
        due("act", road.act(herd, d, k), model.act(herd, d, k));
    }

    private void ask() {
        int stance = pick(0, model.about(1) - 1);
        int what = pick(0, 9);
        due("known", road.known(stance), model.known(stance));
        due("at", road.at(stance, what % 6), model.at(stance, what % 6));
        due("about", road.about(what), model.about(what));
        due("fault", road.fault(what % 3), model.fault(what % 3));
        int herd = pick(0, Math.max(0, model.about(2) - 1));
        due("of", road.of(herd, what), model.of(herd, what));
    }
}
