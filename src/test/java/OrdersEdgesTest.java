/** The boundary cases of the orders' language, part 2 of the document, and of promises 8 to 11. */
public final class OrdersEdgesTest {
    private static final Checks CHECKS = new Checks("OrdersEdgesTest");
    private static final int LEAST = Checks.LEAST;
    private static final int GREATEST = Checks.GREATEST;
    private static final String SIGNS = ";<>=+-()";
    private static final String LINE = "when 1 do walk;";
    private static final String[] KEYS = {"when", "do", "walk", "rest", "sell", "or", "and", "not"};
    private static final String[] NAMES = {"day", "heads", "weight", "sore", "grass", "miles", "stance", "price", "want"};

    public static void main(String[] args) {
        longestText();
        noText();
        ruleOfALine();
        ruleOfAnAct();
        ruleOfE();
        ruleOfOne();
        ruleOfSum();
        ruleOfTerm();
        wordBytes();
        wordLength();
        digits();
        everyFirstByte();
        everyByteBehindADigit();
        everyByteBehindAWord();
        blanks();
        asLongAsCanBe();
        noLetterBehindADigit();
        noNames();
        names();
        keysAreWhole();
        namesAtTheirEdges();
        eightLines();
        eightyOperands();
        withinEight();
        greatSums();
        signsAnswer();
        notAnswers();
        andOrAnswer();
        firstPlace();
        theEnd();
        leastAtOnePlace();
        noSuchName();
        feeding();
        feedRefused();
        ending();
        endRefused();
        ordersTaken();
        fullOrdersAgain();
        ordersFaulty();
        noSuchHerd();
        faultAsked();
        CHECKS.close();
    }

    private static DroveRoads withHerd() {
        DroveRoads x = Scenes.green(1, 1);
        x.herd(500, 300, 1, 0);
        return x;
    }

    private static void stands(String text, int lines) {
        DroveRoads x = withHerd();
        CHECKS.due("orders of \"" + text + "\"", Checks.orders(x, 0, text), lines);
        CHECKS.due("fault(0) of \"" + text + "\"", x.fault(0), 0);
        CHECKS.due("fault(1) of \"" + text + "\"", x.fault(1), -1);
        CHECKS.due("of(0, 8) of \"" + text + "\"", x.of(0, 8), lines);
    }

    private static void faulty(String text, int fault, int place) {
        DroveRoads x = withHerd();
        CHECKS.due("orders of \"" + text + "\"", Checks.orders(x, 0, text), -1);
        CHECKS.due("fault(0) of \"" + text + "\"", x.fault(0), fault);
        CHECKS.due("fault(1) of \"" + text + "\"", x.fault(1), place);
        CHECKS.due("of(0, 8) of \"" + text + "\"", x.of(0, 8), 0);
    }

    /** Places count from the first byte of the e. */
    private static void faultyE(String e, int fault, int place) {
        faulty("when " + e + " do walk;", fault, 5 + place);
    }

    private static void standsE(String e) {
        stands("when " + e + " do walk;", 1);
    }

    /** One of the herd is sold if the e is not 0; it rests if it is. */
    private static void is(String e, boolean want) {
        DroveRoads x = withHerd();
        CHECKS.due("lines of " + e, Checks.orders(x, 0, "when " + e + " do sell 1;when 1 do rest;"), 2);
        x.days(1);
        CHECKS.due(e, x.of(0, 6), want ? 1 : 0);
        CHECKS.due(e + " stays", x.of(0, 3), 0);
    }

    private static void longestText() {
        CHECKS.says("Each HERD has ORDERS, a text of at most 500 bytes (none at first)");
        CHECKS.due("lines at first", withHerd().of(0, 8), 0);
        stands(LINE + " ".repeat(485), 1);
        stands(" ".repeat(485) + LINE, 1);
        stands("\n".repeat(500), 0);
        DroveRoads x = withHerd();
        for (int k = 0; k < 25; k++) {
            x.feed(0x20202020, 0x20202020, 0x20202020, 0x20202020, 0x20202020);
        }
        CHECKS.due("a byte more", x.feed(0, 0, 0, 0, 0), -1);
        CHECKS.due("500 bytes", x.about(6), 500);
        // Each line has sums, brackets and a name, so that 500 bytes are near to all that a text can hold.
        String line = "when (((day+1)-2)+3)=4 or not 5 and 6<7 do sell 999999;";
        stands(line.repeat(8) + " ".repeat(500 - 8 * line.length()), 8);
    }

    private static void noText() {
        CHECKS.says("orders = {line}.");
        stands("", 0);
        stands(" ", 0);
        stands("\n", 0);
        for (int lines = 1; lines <= 8; lines++) {
            stands(LINE.repeat(lines), lines);
        }
    }

    private static void ruleOfALine() {
        CHECKS.says("line = when e do act ;.");
        stands(LINE, 1);
        faulty("1 do walk;", 2, 0);
        faulty("when do walk;", 2, 5);
        faulty("when 1 walk;", 2, 7);
        faulty("when 1 do;", 2, 9);
        faulty("when 1 do walk", 2, 14);
        faulty("when 1 do walk when", 2, 15);
        faulty("when 1 do walk;;", 2, 15);
        faulty("when 1 do walk rest;", 2, 15);
        faulty("when 1; do walk;", 2, 6);
        faulty("when when 1 do walk;", 2, 5);
        faulty("when 1 do do walk;", 2, 10);
    }

    private static void ruleOfAnAct() {
        CHECKS.says("act = walk | rest | sell N.");
        stands("when 1 do walk;", 1);
        stands("when 1 do rest;", 1);
        stands("when 1 do sell 0;", 1);
        stands("when 1 do sell 999999;", 1);
        faulty("when 1 do sell;", 2, 14);
        faulty("when 1 do sell heads;", 2, 15);
        faulty("when 1 do sell (1);", 2, 15);
        faulty("when 1 do sell -1;", 2, 15);
        faulty("when 1 do sell 1+1;", 2, 16);
        faulty("when 1 do sell 1 1;", 2, 17);
        faulty("when 1 do sell 1000000;", 1, 15);
        faulty("when 1 do walk 1;", 2, 15);
        faulty("when 1 do rest 1;", 2, 15);
        faulty("when 1 do 1;", 2, 10);
        faulty("when 1 do day;", 2, 10);
        faulty("when 1 do or;", 2, 10);
    }

    private static void ruleOfE() {
        CHECKS.says("e = both {or both}. both = one {and one}.");
        standsE("1");
        standsE("1 or 1");
        standsE("1 and 1");
        standsE("1" + " or 1".repeat(79));
        standsE("1" + " and 1".repeat(79));
        standsE("1 and 1 or 1 and 1 or not 1 and not 1");
        faultyE("or", 2, 0);
        faultyE("and 1", 2, 0);
        faultyE("1 or", 2, 5);
        faultyE("1 and", 2, 6);
        faultyE("1 or or 1", 2, 5);
        faultyE("1 and and 1", 2, 6);
        faultyE("1 or and 1", 2, 5);
        faultyE("1 and or 1", 2, 6);
        faultyE("1 1", 2, 2);
        faultyE("1 or 1 1", 2, 7);
    }

    private static void ruleOfOne() {
        CHECKS.says("one = not one | sum [( < | > | = ) sum].");
        for (String sign : new String[] {"<", ">", "="}) {
            standsE("1" + sign + "2");
            standsE("not 1" + sign + "2");
            standsE("1+2" + sign + "3-4");
            faultyE("1" + sign, 2, 3);
            faultyE(sign + "1", 2, 0);
            faultyE("1" + sign + sign + "2", 2, 2);
            faultyE("1" + sign + "not 2", 2, 2);
            for (String other : new String[] {"<", ">", "="}) {
                faultyE("1" + sign + "2" + other + "3", 2, 3);
                standsE("(1" + sign + "2)" + other + "3");
            }
        }
        standsE("not 1");
        standsE("not not 1");
        faultyE("not", 2, 4);
        faultyE("not or 1", 2, 4);
        faultyE("1 not", 2, 2);
        faultyE("1 not 1", 2, 2);
    }

    private static void ruleOfSum() {
        CHECKS.says("sum = term {( + | - ) term}.");
        for (String sign : new String[] {"+", "-"}) {
            standsE("1" + sign + "2");
            standsE("1" + (sign + "2").repeat(79));
            faultyE("1" + sign, 2, 3);
            faultyE(sign + "1", 2, 0);
            faultyE("(" + sign + "1)", 2, 1);
            faultyE("1=" + sign + "1", 2, 2);
            faultyE("1" + sign + sign + "2", 2, 2);
            faultyE("1" + sign + "not 2", 2, 2);
            faultyE("1" + sign + "<2", 2, 2);
        }
    }

    private static void ruleOfTerm() {
        CHECKS.says("term = N | NAME | ( e ).");
        standsE("1");
        standsE("day");
        standsE("(1)");
        standsE("(not 1 or day=2 and 3)");
        standsE("(1)+(2)");
        faultyE("()", 2, 1);
        faultyE("(", 2, 2);
        faultyE(")", 2, 0);
        faultyE("(1", 2, 3);
        faultyE("1)", 2, 1);
        faultyE("(1))", 2, 3);
        faultyE("((1)", 2, 5);
        faultyE("(1)(2)", 2, 3);
        faultyE("(1)2", 2, 3);
        faultyE("1(2)", 2, 1);
        faultyE("day(2)", 2, 3);
        faultyE("(1;", 2, 2);
        faultyE("(when)", 2, 1);
        for (char sign : ";<>=+-)".toCharArray()) {
            faultyE("" + sign, 2, 0);
            faultyE("1+" + sign, 2, 2);
            faultyE("not " + sign, 2, 4);
        }
    }

    private static void wordBytes() {
        CHECKS.says("words (a .. z; 8 bytes at most)");
        faultyE("a", 3, 0);
        faultyE("z", 3, 0);
        for (char outside : new char[] {'`', '{', 'A', 'Z', '@', '['}) {
            faultyE("" + outside, 1, 0);
            faulty("when day" + outside + " do walk;", 1, 8);
        }
        faulty("When 1 do walk;", 1, 0);
        faulty("wHen 1 do walk;", 2, 0);
        faulty("when 1 do WALK;", 1, 10);
    }

    private static void wordLength() {
        CHECKS.says("words (a .. z; 8 bytes at most)");
        faultyE("abcdefg", 3, 0);
        faultyE("abcdefgh", 3, 0);
        faultyE("zzzzzzzz", 3, 0);
        faultyE("abcdefghi", 1, 0);
        faultyE("zzzzzzzzz", 1, 0);
        faultyE("a".repeat(480), 1, 0);
        faulty("abcdefgh", 2, 0);
        faulty("abcdefghi", 1, 0);
        faulty("when 1 abcdefgh", 2, 7);
        faulty("when 1 abcdefghi", 1, 7);
        faulty("when 1 do walkwalk;", 2, 10);
        faulty("when 1 do walkwalkw;", 1, 10);
        faulty("a".repeat(500), 1, 0);
    }

    private static void digits() {
        CHECKS.says("N (1 to 6 digits)");
        for (String number : new String[] {"0", "9", "10", "99999", "100000", "999999", "000000", "000001"}) {
            standsE(number);
            stands("when 1 do sell " + number + ";", 1);
        }
        for (String number : new String[] {"1000000", "0000000", "0000001", "9999999", "4294967297", "1".repeat(400)}) {
            faultyE(number, 1, 0);
            faulty("when 1 do sell " + number + ";", 1, 15);
        }
        faultyE("/", 1, 0);
        faultyE(":", 1, 0);
        faultyE("1/2", 1, 1);
        faultyE("1:2", 1, 1);
        is("000007=7", true);
        is("999999=999998+1", true);
        is("100000=99999+1", true);
        DroveRoads x = withHerd();
        Checks.orders(x, 0, "when 1 do sell 000012;");
        x.days(1);
        CHECKS.due("sell 000012", x.of(0, 6), 12);
    }

    private static boolean isLetter(int b) {
        return b >= 97 && b <= 122;
    }

    private static boolean isDigit(int b) {
        return b >= 48 && b <= 57;
    }

    private static boolean isBlank(int b) {
        return b == 32 || b == 10;
    }

    private static void everyFirstByte() {
        CHECKS.says("signs ; < > = + - ( ).");
        for (int b = 0; b < 256; b++) {
            String text = "" + (char) b;
            if (isBlank(b)) {
                stands(text, 0);
            } else {
                boolean token = isLetter(b) || isDigit(b) || SIGNS.contains(text);
                faulty(text, token ? 2 : 1, 0);
                faulty(LINE + text, token ? 2 : 1, 15);
            }
        }
    }

    private static void everyByteBehindADigit() {
        CHECKS.says("no letter directly behind a digit");
        for (int b = 0; b < 256; b++) {
            String text = "when 1" + (char) b + " do walk;";
            if (isBlank(b) || isDigit(b)) {
                stands(text, 1);
            } else if (isLetter(b)) {
                faulty(text, 1, 5);
            } else if ("<>=+-".indexOf(b) >= 0) {
                faulty(text, 2, 8);
            } else {
                faulty(text, SIGNS.indexOf(b) >= 0 ? 2 : 1, 6);
            }
        }
    }

    private static void everyByteBehindAWord() {
        CHECKS.says("words, digits as long as can be");
        for (int b = 0; b < 256; b++) {
            String text = "when day" + (char) b + " do walk;";
            if (isBlank(b)) {
                stands(text, 1);
            } else if (isLetter(b)) {
                faulty(text, 3, 5);
            } else if ("<>=+-".indexOf(b) >= 0) {
                faulty(text, 2, 10);
            } else {
                boolean token = isDigit(b) || SIGNS.indexOf(b) >= 0;
                faulty(text, token ? 2 : 1, 8);
            }
        }
    }

    private static void blanks() {
        CHECKS.says("Blanks (32, 10) part them or not");
        stands("when(day)=1+(2)do walk;", 1);
        stands("when(1)do sell1;", 1);
        stands("when1=(2)do rest;when(3)do rest;", 2);
        stands("  when  1  do  sell  1  ;  ", 1);
        stands("\nwhen\n1\ndo\nsell\n1\n;\n", 1);
        stands("\n \nwhen \n1 \n <\n 2\n\ndo  walk\n;", 1);
        for (char no : new char[] {0, 9, 11, 12, 13, 31, 33, 127, 128, 160, 255}) {
            faulty(no + LINE, 1, 0);
            faulty("when" + no + "1 do walk;", 1, 4);
            faulty(LINE + no, 1, 15);
        }
        faultyE("da y", 3, 0);
        faultyE("1 2", 2, 2);
        faulty("when 1 do wa lk;", 2, 10);
    }

    private static void asLongAsCanBe() {
        CHECKS.says("words, digits as long as can be");
        faulty("whenday do walk;", 2, 0);
        faulty("when 1 dowalk;", 2, 7);
        faulty("when 1 do sellx 1;", 2, 10);
        faultyE("notday", 3, 0);
        faultyE("dayday", 3, 0);
        faultyE("day orday", 2, 4);
        faultyE("days", 3, 0);
        faultyE("da", 3, 0);
        is("12=12", true);
        is("12=1+2", false);
        is("123456-123455=1", true);
    }

    private static void noLetterBehindADigit() {
        CHECKS.says("no letter directly behind a digit");
        faultyE("1a", 1, 0);
        faultyE("1z", 1, 0);
        faultyE("123456a", 1, 0);
        faultyE("12or 3", 1, 0);
        faultyE("1+2and 3", 1, 2);
        faulty("when 1do walk;", 1, 5);
        faulty("when 1 do sell 1x;", 1, 15);
        faulty("1a", 1, 0);
        faultyE("day 1a", 1, 4);
        // A digit behind a letter is fine, and so is a letter behind a sign or a blank.
        stands("when1 do sell1;", 1);
        stands("when 1 do sell 1;", 1);
        stands("when (1)do walk;", 1);
    }

    private static void noNames() {
        CHECKS.says("when do walk rest sell or and not are no NAMES.");
        for (String key : KEYS) {
            int place = key.equals("not") ? 5 : 0;
            faultyE(key + " ", 2, place);
            faultyE("1+" + key, 2, 2);
            faultyE("1<" + key, 2, 2);
            faulty("when 1 do sell " + key + ";", 2, 15);
        }
    }

    private static void names() {
        CHECKS.says("3 a NAME that there is not.");
        for (String name : NAMES) {
            standsE(name);
            standsE("not " + name + "+" + name + "=(" + name + ")");
            faultyE(name + "x", 3, 0);
            faultyE("x" + name, 3, 0);
            faultyE(name.substring(1), 3, 0);
            faultyE(name.substring(0, name.length() - 1), 3, 0);
            faulty("when 1 do " + name + ";", 2, 10);
            faulty(name, 2, 0);
            for (int k = 0; k < name.length(); k++) {
                faultyE(name.substring(0, k) + "q" + name.substring(k + 1), 3, 0);
            }
        }
    }

    private static void keysAreWhole() {
        CHECKS.says("2 one that can't stand there");
        String text = "when not 1 and 2 or 3 do sell 4;";
        stands(text, 1);
        for (int k = 0; k < text.length(); k++) {
            if (isLetter(text.charAt(k))) {
                String other = text.substring(0, k) + "q" + text.substring(k + 1);
                int word = text.lastIndexOf(' ', k) + 1;
                // A word that is not "not" could be a NAME there.
                faulty(other, word == 5 ? 3 : 2, word);
            }
        }
        for (String act : new String[] {"walk", "rest"}) {
            for (int k = 0; k < act.length(); k++) {
                faulty("when 1 do " + act.substring(0, k) + "q" + act.substring(k + 1) + ";", 2, 10);
            }
        }
    }

    private static void namesAtTheirEdges() {
        CHECKS.says("NAMES: day, heads, weight, sore, grass (at its STANCE), miles (of its next STAGE), stance, price (KNOWN), want (HEADS * NEED).");
        DroveRoads x = Scenes.bare(30, 30, 29);
        x.grass(0, 99999, 1000, 100000);
        x.grass(2, 99998, 1, 100000);
        x.letter(1000);
        x.herd(500, 600, 20, 0);
        String atFirst = "day=0 and heads=500 and weight=600 and sore=0 and grass=100000 and miles=30 and stance=0";
        Checks.orders(x, 0, "when " + atFirst + " and price=0 and want=10000 do walk; when day=0 do sell 500;");
        x.days(2);
        CHECKS.due("all that a herd has at first", x.of(0, 3), 2);
        // Two walks of 30 miles, hunger on the first of them, and enough on the second.
        String then = "day=2 and heads=500 and weight=585 and sore=60 and grass=90001 and miles=29 and stance=2";
        Checks.orders(x, 0, "when " + then + " and price=1000 and want=10000 do rest; when 1 do sell 500;");
        x.days(1);
        CHECKS.due("all that it has at stance 2", x.of(0, 0), 500);
        CHECKS.due("it rested", x.of(0, 2), 45);
    }

    private static void eightLines() {
        CHECKS.says("At most 8 lines");
        stands(LINE.repeat(7), 7);
        stands(LINE.repeat(8), 8);
        stands(LINE.repeat(8) + " \n", 8);
        CHECKS.says("(a 9th line: at its when;");
        faulty(LINE.repeat(9), 2, 120);
        faulty(LINE.repeat(8) + "\n when", 2, 122);
        faulty(LINE.repeat(8) + "when ?", 2, 120);
        faulty(LINE.repeat(8) + "when x", 2, 120);
        faulty(LINE.repeat(30), 2, 120);
        faulty(LINE.repeat(8) + ";", 2, 120);
        faulty(LINE.repeat(8) + "?", 1, 120);
    }

    private static void eightyOperands() {
        CHECKS.says("80 N and NAMES in e's");
        String eighty = "1" + "+1".repeat(79);
        String names = "day" + "+day".repeat(79);
        String half = "when day" + "+1".repeat(39) + " do sell 5;";
        String tenth = "when 1+1+1+1+1+1+1+1+1+(1) do sell 1;";
        standsE(eighty);
        standsE(names);
        stands(half.repeat(2), 2);
        stands(tenth.repeat(8), 8);
        DroveRoads x = withHerd();
        Checks.orders(x, 0, "when 79" + "-1".repeat(78) + "=1 do sell 1;");
        x.days(1);
        CHECKS.due("all 80 are reckoned", x.of(0, 6), 1);
        CHECKS.says("an 81st N or NAME, what is within 8 others: at it)");
        faultyE(eighty + "+1", 2, 160);
        faultyE(eighty + "+day", 2, 160);
        faultyE(names + "+day", 2, 320);
        faultyE(eighty + " or 1", 2, 163);
        faultyE(eighty + " and not (1)", 2, 169);
        faultyE(eighty + "=1", 2, 160);
        faulty(half.repeat(2) + "when 1 do walk;", 2, 2 * half.length() + 5);
        faulty(half + "when 1" + "+1".repeat(40) + " do walk;", 2, half.length() + 5 + 80);
        faulty(tenth.repeat(7) + "when " + "1+".repeat(10) + "1 do walk;", 2, 7 * tenth.length() + 5 + 20);
    }

    private static String nested(String open, int times, String inside) {
        String close = open.contains("(") ? ")" : "";
        return open.repeat(times) + inside + close.repeat(times);
    }

    private static void withinEight() {
        CHECKS.says("an e or a one within 8 others (in ( ), behind not)");
        standsE(nested("(", 7, "1"));
        standsE(nested("not ", 7, "1"));
        standsE(nested("not(", 3, "not 1"));
        standsE(nested("(not ", 3, "(1)"));
        standsE("1+" + nested("(", 7, "1") + "-" + nested("(", 7, "1"));
        standsE(nested("(", 7, "1") + " and " + nested("not ", 7, "1") + " or " + nested("(", 7, "1"));
        stands("when " + nested("(", 7, "1") + " do walk;when " + nested("not ", 7, "1") + " do walk;", 2);
        is(nested("not ", 7, "1"), false);
        is(nested("not ", 6, "1"), true);
        is(nested("(1+", 7, "0") + "=7", true);
        is(nested("(0 or 1 and 1=0+", 7, "1"), true);
        is(nested("(0 or 1 and 1=0+", 7, "2"), false);
        CHECKS.says("what is within 8 others: at it)");
        faultyE(nested("(", 8, "1"), 2, 8);
        faultyE(nested("(", 9, "1"), 2, 8);
        faultyE(nested("(", 400, "1").substring(0, 480), 2, 8);
        faultyE(nested("not ", 8, "1"), 2, 32);
        faultyE(nested("not ", 9, "1"), 2, 32);
        faultyE(nested("not ", 100, "1"), 2, 32);
        faultyE(nested("not(", 4, "1"), 2, 16);
        faultyE(nested("(not ", 4, "1"), 2, 20);
        faultyE(nested("(not ", 3, "(not 1)"), 2, 20);
        faultyE("not " + nested("(", 7, "1"), 2, 11);
        faultyE(nested("(", 7, "not 1"), 2, 11);
        faultyE(nested("(", 7, "1 and not 1"), 2, 17);
        faultyE(nested("(", 7, "1+(1)"), 2, 10);
        faultyE(nested("(", 7, "1<(1)"), 2, 10);
    }

    /** Ints wrap beyond what a text of 500 bytes can reckon: no sum is cut or wrong at the greatest. */
    private static void greatSums() {
        CHECKS.says("Ints, wrapping");
        String plus = "999999" + "+999999".repeat(63);
        String minus = "0" + "-999999".repeat(60);
        is(plus + ">0", true);
        is(minus + "<0", true);
        is("not " + minus, false);
        is("0-999999-1<0-999999", true);
        is("0-1<0", true);
        is("0-1", true);
        is("1-2+1", false);
    }

    private static void signsAnswer() {
        CHECKS.says("< > = 1 or 0");
        String[] ones = {"1<2", "2>1", "2=2", "0-1<0", "0>0-1", "0-1=0-1", "999998<999999"};
        String[] zeros = {"2<1", "1<1", "1>2", "1>1", "1=2", "2=1", "0<0-1", "0-1>0", "0=0-1"};
        for (String e : ones) {
            is(e, true);
            is("(" + e + ")=1", true);
        }
        for (String e : zeros) {
            is(e, false);
            is("(" + e + ")=0", true);
        }
    }

    private static void notAnswers() {
        CHECKS.says("not 1 of 0, else 0");
        is("(not 0)=1", true);
        is("(not 1)=0", true);
        is("(not 2)=0", true);
        is("(not 0-1)=0", true);
        is("(not 999999)=0", true);
        is("(not not 2)=1", true);
        is("(not not 0)=0", true);
        is("not 2=2", false);
        is("not 0=1", true);
        is("not 1 or 1", true);
        is("not 0 and 0", false);
    }

    private static void andOrAnswer() {
        CHECKS.says("and, or 1 or 0 by both sides.");
        String[] sides = {"0", "1", "2", "0-1", "999999"};
        for (String left : sides) {
            for (String right : sides) {
                boolean l = !left.equals("0");
                boolean r = !right.equals("0");
                is("(" + left + " and " + right + ")=" + (l && r ? 1 : 0), true);
                is("(" + left + " or " + right + ")=" + (l || r ? 1 : 0), true);
            }
        }
        is("1 or 0 and 0", true);
        is("0 and 0 or 1", true);
        is("(1 or 1)+(2 and 3)=2", true);
        is("(4)=4", true);
    }

    private static void firstPlace() {
        CHECKS.says("FAULTS, the first by its place (bytes from 0; the end: the text's length)");
        faulty("?", 1, 0);
        faulty("1", 2, 0);
        faulty("x", 2, 0);
        faulty("when x ?", 3, 5);
        faulty("when x )", 3, 5);
        faulty("when ) x ?", 2, 5);
        faulty("when ? x )", 1, 5);
        faulty("when 1 1 ?", 2, 7);
        faulty("when 1 ? 1", 1, 7);
        faulty("when day?x", 1, 8);
        faulty("when x?", 3, 5);
        faulty(LINE + "when ?;" + LINE.repeat(8), 1, 20);
        faulty(" ".repeat(499) + "?", 1, 499);
        faulty(" ".repeat(499) + "1", 2, 499);
        faulty(" ".repeat(494) + "when x", 3, 499);
        faulty("when \n\n\n?", 1, 8);
    }

    private static void theEnd() {
        CHECKS.says("the end: the text's length");
        faulty("when", 2, 4);
        faulty("when ", 2, 5);
        faulty("when \n\n ", 2, 8);
        faulty("when 1", 2, 6);
        faulty("when (", 2, 6);
        faulty("when (1", 2, 7);
        faulty("when 1+", 2, 7);
        faulty("when 1<", 2, 7);
        faulty("when not", 2, 8);
        faulty("when 1 or", 2, 9);
        faulty("when 1 and ", 2, 11);
        faulty("when 1 do", 2, 9);
        faulty("when 1 do sell", 2, 14);
        faulty("when 1 do sell 1", 2, 16);
        faulty("when 1 do rest\n", 2, 15);
        faulty(LINE + "when", 2, 19);
        faulty("when" + " ".repeat(496), 2, 500);
        faulty(" ".repeat(496) + "when", 2, 500);
        faulty("when " + "(".repeat(8), 2, 13);
        faulty("when 1" + "+1".repeat(79) + "+", 2, 165);
        // What lies behind the end on the tape is no part of the text.
        DroveRoads x = withHerd();
        Checks.type(x, "when 1 do walk;");
        x.end(14);
        CHECKS.due("a cut text", x.orders(0), -1);
        CHECKS.due("its place", x.fault(1), 14);
        Checks.type(x, "when 1 do sell 12;");
        x.end(16);
        CHECKS.due("a cut number", x.orders(0), -1);
        CHECKS.due("its place", x.fault(1), 16);
        Checks.type(x, "when days do walk;");
        x.end(8);
        CHECKS.due("a cut word", x.orders(0), -1);
        CHECKS.due("it is a name", x.fault(0), 2);
        CHECKS.due("its place", x.fault(1), 8);
        Checks.type(x, "when 1x");
        x.end(6);
        CHECKS.due("a cut letter", x.orders(0), -1);
        CHECKS.due("it is a number", x.fault(0), 2);
        CHECKS.due("its place", x.fault(1), 6);
    }

    private static void leastAtOnePlace() {
        CHECKS.says("at one place the least: 1 no TOKEN; 2 one that can't stand there");
        String eighty = "1" + "+1".repeat(79);
        faulty("abcdefghi", 1, 0);
        faulty("when 1 7x", 1, 7);
        faulty(LINE.repeat(8) + "abcdefghi", 1, 120);
        faultyE(eighty + "+x", 2, 160);
        faultyE(eighty + "+?", 1, 160);
        faultyE(eighty + "+1x", 1, 160);
        faultyE(eighty + "+abcdefghi", 1, 160);
        faultyE(nested("(", 8, "x"), 2, 8);
        faultyE(nested("(", 8, "?"), 1, 8);
        faultyE(nested("not ", 8, "x"), 2, 32);
        faultyE(nested("not ", 8, "1234567"), 1, 32);
        faulty("when 1 x", 2, 7);
        faulty("when 1 do x;", 2, 10);
        faulty("when 1 do sell x;", 2, 15);
    }

    private static void noSuchName() {
        CHECKS.says("3 a NAME that there is not.");
        faultyE("x", 3, 0);
        faultyE("1+x", 3, 2);
        faultyE("1<x", 3, 2);
        faultyE("(x)", 3, 1);
        faultyE("not x", 3, 4);
        faultyE("1 or x", 3, 5);
        faultyE("1 and x", 3, 6);
        faultyE(nested("(", 7, "x"), 3, 7);
        faultyE(nested("not ", 7, "x"), 3, 28);
        faultyE("1" + "+1".repeat(78) + "+x", 3, 158);
        faulty(LINE.repeat(7) + "when x do walk;", 3, 110);
    }

    private static void feeding() {
        CHECKS.says("Twenty bytes come behind those on the TAPE, the highest of each first: how many there are");
        DroveRoads x = withHerd();
        CHECKS.due("feed", x.feed(0x7768656e, 0x20312064, 0x6f207265, 0x73743b20, 0x7768656e), 20);
        CHECKS.due("feed", x.feed(0x20302064, 0x6f207761, 0x6c6b3bff, -1, LEAST), 40);
        CHECKS.due("the 32nd byte is no token", x.orders(0), -1);
        CHECKS.due("its place", x.fault(1), 31);
        for (int shift = 24; shift >= 0; shift -= 8) {
            DroveRoads y = withHerd();
            y.feed(0x20202020, 0x20202020, 0x20202020, 0x20202020, 0x20202020 ^ 0xff << shift);
            CHECKS.due("a byte that is no token", y.orders(0), -1);
            CHECKS.due("the highest is the first", y.fault(1), 16 + (24 - shift) / 8);
        }
        DroveRoads z = withHerd();
        for (int k = 1; k <= 25; k++) {
            CHECKS.due("feed " + k, z.feed(1, 2, 3, 4, 5), 20 * k);
            CHECKS.due("bytes", z.about(6), 20 * k);
        }
    }

    private static void feedRefused() {
        CHECKS.says("NONE, and nothing comes, if there would be more than 500.");
        CHECKS.refused("feed above 481 bytes", Scenes::longTape, x -> x.feed(0, 0, 0, 0, 0), -1);
        CHECKS.refused("feed above 500 bytes", Scenes::fullTape, x -> x.feed(0, 0, 0, 0, 0), -1);
        DroveRoads x = withHerd();
        Checks.type(x, " ".repeat(480));
        CHECKS.due("feed above 480 bytes", x.feed(0, 0, 0, 0, 0), 500);
        CHECKS.due("its first byte", x.orders(0), -1);
        CHECKS.due("its place", x.fault(1), 480);
    }

    private static void ending() {
        CHECKS.says("The TAPE has its first n bytes: n");
        DroveRoads x = withHerd();
        CHECKS.due("end(0) of an empty one", x.end(0), 0);
        Checks.type(x, LINE + "?");
        CHECKS.due("end(16) of 16", x.end(16), 16);
        CHECKS.due("end(15) of 16", x.end(15), 15);
        CHECKS.due("bytes", x.about(6), 15);
        CHECKS.due("orders", x.orders(0), 1);
        Checks.type(x, LINE);
        CHECKS.due("end(0) of 15", x.end(0), 0);
        CHECKS.due("bytes", x.about(6), 0);
        CHECKS.due("orders", x.orders(0), 0);
    }

    private static void endRefused() {
        CHECKS.says("NONE, doing nothing, if it has not so many, or n is below 0.");
        for (int n : new int[] {-1, 25, 40, 500, 501, LEAST, GREATEST}) {
            CHECKS.refused("end(" + n + ") of 24", Scenes::busy, x -> x.end(n), -1);
        }
        CHECKS.refused("end(24) of 24", Scenes::busy, x -> x.end(24), 24);
        CHECKS.refused("end(501) of 500", Scenes::fullTape, x -> x.end(501), -1);
        CHECKS.refused("end(500) of 500", Scenes::fullTape, x -> x.end(500), 500);
        DroveRoads x = new DroveRoads();
        CHECKS.due("end(1) of an empty one", x.end(1), -1);
        CHECKS.due("end(-1) of an empty one", x.end(-1), -1);
        x.feed(1, 2, 3, 4, 5);
        x.end(7);
        CHECKS.due("end(8) of what was cut to 7", x.end(8), -1);
    }

    private static void ordersTaken() {
        CHECKS.says("The TAPE (empty then) is the ORDERS of a HERD: how many lines");
        DroveRoads x = withHerd();
        Checks.type(x, LINE.repeat(8));
        CHECKS.due("orders(0)", x.orders(0), 8);
        CHECKS.due("bytes", x.about(6), 0);
        CHECKS.due("of(0, 8)", x.of(0, 8), 8);
        CHECKS.due("orders(0) of an empty tape", x.orders(0), 0);
        CHECKS.due("of(0, 8)", x.of(0, 8), 0);
        int[] counts = {1, 8, 0, 3, 8, 8, 2};
        for (int lines : counts) {
            CHECKS.due("orders(0) again", Checks.orders(x, 0, LINE.repeat(lines)), lines);
            CHECKS.due("of(0, 8)", x.of(0, 8), lines);
        }
    }

    private static void fullOrdersAgain() {
        CHECKS.says("The TAPE (empty then) is the ORDERS of a HERD: how many lines");
        DroveRoads x = withHerd();
        for (int n = 1; n <= 12; n++) {
            String text = "when 0" + "+1-1".repeat(38) + "+1-1 do walk;when 1 do sell " + n + ";";
            CHECKS.due("orders(0) again", Checks.orders(x, 0, text), 2);
            int sold = x.of(0, 6);
            x.days(1);
            CHECKS.due("sold by the latest ones", x.of(0, 6) - sold, n);
        }
    }

    private static void ordersFaulty() {
        CHECKS.says("NONE: a FAULT (its ORDERS stay)");
        for (String text : new String[] {"?", "when", "when x", "when 1 do sell 9; when 1 do sell 9; when", LINE.repeat(9)}) {
            DroveRoads x = withHerd();
            Checks.orders(x, 0, "when 0 do sell 5; when day < 9 do sell 3;");
            CHECKS.due("orders of \"" + text + "\"", Checks.orders(x, 0, text), -1);
            CHECKS.due("bytes", x.about(6), 0);
            CHECKS.due("lines", x.of(0, 8), 2);
            x.days(1);
            CHECKS.due("sold by the former ones", x.of(0, 6), 3);
            CHECKS.due("orders again", Checks.orders(x, 0, text), -1);
            x.days(1);
            CHECKS.due("sold by the former ones", x.of(0, 6), 6);
            CHECKS.due("orders without a fault", Checks.orders(x, 0, "when 1 do sell 4;"), 1);
            CHECKS.due("lines", x.of(0, 8), 1);
            x.days(1);
            CHECKS.due("sold by the new ones", x.of(0, 6), 10);
        }
    }

    private static void noSuchHerd() {
        CHECKS.says("-2, and the TAPE stays: there is no such HERD.");
        for (int herd : new int[] {-1, 2, 5, 6, LEAST, GREATEST}) {
            CHECKS.refused("orders(" + herd + ")", Scenes::busy, x -> x.orders(herd), -2);
        }
        CHECKS.refused("orders(0) without herds", Scenes::laid, x -> x.orders(0), -2);
        CHECKS.refused("orders(6) with six", Scenes::sixHerds, x -> x.orders(6), -2);
        DroveRoads x = new DroveRoads();
        Scenes.sixHerds(x);
        x.end(0);
        CHECKS.due("orders(5) with six", x.orders(5), 0);
    }

    private static void faultAsked() {
        CHECKS.says("Of the latest orders() that was not -2 what 0: its FAULT (0), 1: its place (NONE). NONE for another what.");
        DroveRoads x = new DroveRoads();
        CHECKS.due("fault(0) ahead of all orders", x.fault(0), 0);
        CHECKS.due("fault(1) ahead of all orders", x.fault(1), -1);
        for (int what : new int[] {-1, 2, LEAST, GREATEST}) {
            CHECKS.due("fault(" + what + ")", x.fault(what), -1);
        }
        Checks.orders(x, 0, "?");
        CHECKS.due("fault(0) behind a -2", x.fault(0), 0);
        CHECKS.due("fault(1) behind a -2", x.fault(1), -1);
        x.herd(1, 100, 1, 0);
        CHECKS.due("orders(0)", x.orders(0), -1);
        CHECKS.due("fault(0)", x.fault(0), 1);
        CHECKS.due("fault(1)", x.fault(1), 0);
        CHECKS.due("orders(1)", x.orders(1), -2);
        CHECKS.due("fault(0) stays behind a -2", x.fault(0), 1);
        CHECKS.due("fault(1) stays behind a -2", x.fault(1), 0);
        for (int what : new int[] {-1, 2, LEAST, GREATEST}) {
            CHECKS.due("fault(" + what + ") with one", x.fault(what), -1);
        }
        CHECKS.due("orders(0) of no text", x.orders(0), 0);
        CHECKS.due("fault(0) without", x.fault(0), 0);
        CHECKS.due("fault(1) without", x.fault(1), -1);
    }
}
