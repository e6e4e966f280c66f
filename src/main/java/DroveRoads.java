/**
 * A road along which herds are driven to a fair, with the letters, orders and bills that go with it.
 *
 * The words in capitals are those of the document (../shared/DOC.md). Every row is made once, with the object
 * or with a HERD, and used again, since all that a run of calls makes stays in one room.
 */
public final class DroveRoads {

    public static final int NONE = -1;

    private static final int NO_HERD = -2;
    private static final int NO_WAY = -100000;
    private static final int MOST_HERDS = 6;
    private static final int MOST_BYTES = 500;
    private static final int MOST_LINES = 8;
    private static final int MOST_DAYS_A_CALL = 400;
    private static final int LAST_DAY = 100000;
    private static final int LAST_START = 10000;
    private static final int MOST_SORE = 60;
    private static final int MOST_HEADS = 500;
    private static final int EASED_BY_REST = 15;

    /** The act of a line that walks; every other act is how many HEADS are sold before the others rest. */
    private static final int WALK = -1;

    private final Road road = new Road();
    private final Letters letters = new Letters();
    private final Bills bills = new Bills();
    private final Herd[] herds = new Herd[MOST_HERDS];
    private final byte[] tape = new byte[MOST_BYTES];
    private final Reckoner reckoner = new Reckoner();
    private Orders spareOrders = new Orders();
    private int herdCount = 0;
    private int tapeBytes = 0;
    private int latestFault = 0;
    private int latestFaultPlace = NONE;
    private int today = 0;

    public DroveRoads() {
    }

    public int stance(int miles) {
        if (herdCount > 0 || !Road.canBeMiles(miles)) {
            return NONE;
        }
        return road.lengthen(miles);
    }

    public boolean first(int miles) {
        if (herdCount > 0 || !Road.canBeMiles(miles)) {
            return false;
        }
        road.setFirstMiles(miles);
        return true;
    }

    public boolean grass(int stance, int grass, int grows, int most) {
        return road.sow(stance, grass, grows, most);
    }

    public int herd(int heads, int weight, int need, int start) {
        boolean canBe = within(heads, 1, MOST_HEADS) && within(weight, 100, 600)
            && within(need, 1, 20) && within(start, today, LAST_START);
        if (!canBe || herdCount >= MOST_HERDS) {
            return NONE;
        }
        herds[herdCount] = new Herd(heads, weight, need, start);
        herdCount++;
        return herdCount - 1;
    }

    public int letter(int price) {
        return letters.send(price, today);
    }

    public int known(int stance) {
        return road.has(stance) ? priceKnownAt(stance) : NONE;
    }

    public int feed(int a, int b, int c, int d, int e) {
        if (tapeBytes + 20 > MOST_BYTES) {
            return NONE;
        }
        feedFour(a);
        feedFour(b);
        feedFour(c);
        feedFour(d);
        feedFour(e);
        return tapeBytes;
    }

    public int end(int n) {
        if (!within(n, 0, tapeBytes)) {
            return NONE;
        }
        tapeBytes = n;
        return n;
    }

    public int orders(int herd) {
        Herd told = findHerd(herd);
        if (told == null) {
            return NO_HERD;
        }
        Parser parser = new Parser(tape, tapeBytes, spareOrders);
        boolean faultless = parser.read();
        latestFault = parser.fault;
        latestFaultPlace = parser.faultPlace;
        tapeBytes = 0;
        if (!faultless) {
            return NONE;
        }
        Orders former = told.orders;
        told.orders = spareOrders;
        spareOrders = former;
        return told.orders.lines;
    }

    public int fault(int what) {
        switch (what) {
            case 0: return latestFault;
            case 1: return latestFaultPlace;
            default: return NONE;
        }
    }

    public int days(int n) {
        if (!within(n, 0, MOST_DAYS_A_CALL)) {
            return NONE;
        }
        int done = 0;
        for (; done < n && today < LAST_DAY; done++) {
            passDay();
        }
        return done;
    }

    public int of(int herd, int what) {
        Herd asked = findHerd(herd);
        return asked == null ? NONE : asked.tell(what);
    }

    public int at(int stance, int what) {
        return road.has(stance) ? road.tell(stance, what) : NONE;
    }

    public int gain(int herd, int d) {
        LoneWay way = findWay(herd, d);
        return way == null ? NO_WAY : way.bestGain();
    }

    public int length(int herd, int d) {
        LoneWay way = findWay(herd, d);
        return way == null ? NONE : way.days;
    }

    public int act(int herd, int d, int k) {
        LoneWay way = findWay(herd, d);
        return way == null ? NONE : way.bestAct(k);
    }

    public int bill(int amount, int hand, int due) {
        return bills.make(amount, hand, due);
    }

    public int pass(int bill, int from, int to, int day) {
        if (!bills.has(bill) || !within(day, 0, today)) {
            return NONE;
        }
        return bills.passings.add(bill, from, to, day, today);
    }

    public boolean untell(int passing) {
        return bills.passings.takeBack(passing, today);
    }

    public int holder(int bill, int d, int k) {
        return bills.holderKnown(bill, d, k);
    }

    public int pay(int bill) {
        return bills.settle(bill, today);
    }

    public int paid(int bill, int what) {
        return bills.tell(bill, what);
    }

    public int about(int what) {
        switch (what) {
            case 0: return today;
            case 1: return road.stances;
            case 2: return herdCount;
            case 3: return letters.count;
            case 4: return bills.count;
            case 5: return bills.passings.count;
            case 6: return tapeBytes;
            default: return NONE;
        }
    }

    private static boolean within(int value, int least, int most) {
        return value >= least && value <= most;
    }

    private Herd findHerd(int number) {
        return number >= 0 && number < herdCount ? herds[number] : null;
    }

    private int priceKnownAt(int stance) {
        return letters.priceKnown(road.milesToFair(stance), today);
    }

    private void feedFour(int four) {
        for (int shift = 24; shift >= 0 && tapeBytes < MOST_BYTES; shift -= 8) {
            tape[tapeBytes] = (byte) (four >>> shift);
            tapeBytes++;
        }
    }

    /** BEST for a HERD ALONE; null if it can't be asked for, or there is no WAY. */
    private LoneWay findWay(int herd, int d) {
        Herd asked = findHerd(herd);
        if (asked == null || asked.heads == 0 || !within(d, 1, LoneWay.MOST_DAYS)) {
            return null;
        }
        LoneWay way = new LoneWay(road, asked.stance, asked.sore, d);
        return way.comesToFair() ? way : null;
    }

    private void passDay() {
        road.grow();
        for (int k = 0; k < herdCount; k++) {
            Herd herd = herds[k];
            if (herd != null && herd.heads > 0 && herd.start <= today) {
                drive(herd);
            }
        }
        today++;
    }

    private void drive(Herd herd) {
        int price = priceKnownAt(herd.stance);
        reckoner.learn(herd, road, today, price);
        int act = reckoner.choose(herd.orders);
        if (act == WALK) {
            walkOn(herd);
        } else {
            herd.sellOnTheWay(act, price);
        }
        if (herd.heads > 0) {
            int eaten = road.graze(herd.stance, herd.want());
            herd.eat(eaten, act == WALK);
        }
    }

    private void walkOn(Herd herd) {
        int left = herd.walk(road.milesOfStage(herd.stance));
        road.noteLeft(herd.stance, left);
        if (herd.stance == road.fair()) {
            herd.sellAtFair(priceKnownAt(herd.stance));
        }
    }

    /** THE ROAD: its STANCES, the STAGES between them, and the GRASS. */
    private static final class Road {
        private static final int MOST_STANCES = 10;

        int stances = 2;
        private final int[] stageMiles = new int[MOST_STANCES];
        private final int[] toFair = new int[MOST_STANCES];
        private final int[] grassNow = new int[MOST_STANCES];
        private final int[] grassGrows = new int[MOST_STANCES];
        private final int[] grassMost = new int[MOST_STANCES];
        private final int[] leftBefore = new int[MOST_STANCES];

        Road() {
            stageMiles[0] = 1;
            toFair[0] = 1;
        }

        static boolean canBeMiles(int miles) {
            return within(miles, 1, 30);
        }

        boolean has(int stance) {
            return stance >= 0 && stance < stances;
        }

        int fair() {
            return stances - 1;
        }

        int lengthen(int miles) {
            if (stances >= MOST_STANCES) {
                return NONE;
            }
            stageMiles[stances - 1] = miles;
            stances++;
            measure();
            return fair();
        }

        void setFirstMiles(int miles) {
            stageMiles[0] = miles;
            measure();
        }

        private void measure() {
            int miles = 0;
            for (int k = fair(); k >= 0; k--) {
                miles += stageMiles[k];
                toFair[k] = miles;
            }
        }

        /** The MILES of the STAGE that begins at a STANCE; none begins at THE FAIR. */
        int milesOfStage(int stance) {
            return has(stance) ? stageMiles[stance] : 0;
        }

        int milesToFair(int stance) {
            return has(stance) ? toFair[stance] : 0;
        }

        int grassAt(int stance) {
            return has(stance) ? grassNow[stance] : 0;
        }

        boolean sow(int stance, int grass, int grows, int most) {
            boolean canBe = within(most, 0, 100000) && within(grass, 0, most) && within(grows, 0, 1000);
            if (!canBe || !has(stance) || stance == fair()) {
                return false;
            }
            grassNow[stance] = grass;
            grassGrows[stance] = grows;
            grassMost[stance] = most;
            return true;
        }

        void grow() {
            for (int k = 0; k < stances; k++) {
                grassNow[k] = Math.min(grassMost[k], grassNow[k] + grassGrows[k]);
            }
        }

        /** What is eaten of the GRASS wanted. */
        int graze(int stance, int wanted) {
            int eaten = Math.min(wanted, grassAt(stance));
            if (has(stance)) {
                grassNow[stance] -= eaten;
            }
            return eaten;
        }

        void noteLeft(int stance, int left) {
            if (has(stance)) {
                leftBefore[stance] += left;
            }
        }

        int tell(int stance, int what) {
            if (!has(stance)) {
                return NONE;
            }
            switch (what) {
                case 0: return grassNow[stance];
                case 1: return grassGrows[stance];
                case 2: return grassMost[stance];
                case 3: return toFair[stance];
                case 4: return leftBefore[stance];
                default: return NONE;
            }
        }
    }

    /** LETTERS in the order in which they were told, which is that of their days too. */
    private static final class Letters {
        private static final int MOST_LETTERS = 30;
        private static final int MILES_A_DAY = 40;

        int count = 0;
        private final int[] prices = new int[MOST_LETTERS];
        private final int[] sentOn = new int[MOST_LETTERS];

        int send(int price, int day) {
            if (!within(price, 0, 1000) || count >= MOST_LETTERS) {
                return NONE;
            }
            prices[count] = price;
            sentOn[count] = day;
            count++;
            return count;
        }

        int priceKnown(int milesAway, int day) {
            int lag = (milesAway + MILES_A_DAY - 1) / MILES_A_DAY;
            for (int k = count - 1; k >= 0; k--) {
                if (sentOn[k] + lag <= day) {
                    return prices[k];
                }
            }
            return 0;
        }
    }

    /** A HERD with its ORDERS. */
    private static final class Herd {
        private static final int MOST_COINS = 2000000000;
        private static final int MOST_WEIGHT = 700;
        private static final int STARVING = 80;

        final int need;
        final int start;
        int heads;
        int weight;
        int sore = 0;
        int stance = 0;
        Orders orders = new Orders();
        private int coins = 0;
        private int left = 0;
        private int sold = 0;
        private int dead = 0;
        private int ate = 0;

        Herd(int heads, int weight, int need, int start) {
            this.heads = heads;
            this.weight = weight;
            this.need = need;
            this.start = start;
        }

        int want() {
            return heads * need;
        }

        /** On the way a beast brings half of what it does at THE FAIR. */
        void sellOnTheWay(int most, int price) {
            int count = sellHeads(most);
            earn(count * weight * price / 200);
            // Only those that are left rest: where none is, SORE stays as it was.
            if (heads > 0) {
                sore = Math.max(0, sore - EASED_BY_REST);
            }
        }

        void sellAtFair(int price) {
            int count = sellHeads(heads);
            earn(count * weight * price / 100);
        }

        private int sellHeads(int most) {
            int count = Math.min(most, heads);
            heads -= count;
            sold += count;
            return count;
        }

        private void earn(int more) {
            coins = Math.min(MOST_COINS, coins + more);
        }

        /** Goes on to the next STANCE: how many are LEFT behind on the way. */
        int walk(int miles) {
            stance++;
            sore += miles;
            weight = Math.max(0, weight - miles / 5);
            if (sore <= MOST_SORE) {
                return 0;
            }
            int footsore = Math.min(heads, heads / 20 + 1);
            heads -= footsore;
            left += footsore;
            return footsore;
        }

        void eat(int eaten, boolean walked) {
            ate += eaten;
            if (eaten >= want()) {
                weight = Math.min(MOST_WEIGHT, weight + (walked ? 1 : 3));
            } else {
                weight = Math.max(0, weight - 4);
            }
            if (weight < STARVING) {
                int starved = Math.min(heads, heads / 10 + 1);
                heads -= starved;
                dead += starved;
            }
        }

        int tell(int what) {
            switch (what) {
                case 0: return heads;
                case 1: return weight;
                case 2: return sore;
                case 3: return stance;
                case 4: return coins;
                case 5: return left;
                case 6: return sold;
                case 7: return dead;
                case 8: return orders.lines;
                case 9: return ate;
                default: return NONE;
            }
        }
    }

    /**
     * ORDERS made ready: the e of each line as a row of cells with each sign behind its two sides, so that
     * they can be reckoned in one pass. A cell is an N, or -1 - TOKEN for a NAME or a sign.
     */
    private static final class Orders {
        // Each cell comes from a TOKEN of its own, and a TOKEN has a byte at least.
        final int[] cells = new int[MOST_BYTES];
        final int[] cellsEnd = new int[MOST_LINES];
        final int[] acts = new int[MOST_LINES];
        int lines = 0;
        private int cellCount = 0;

        void clear() {
            lines = 0;
            cellCount = 0;
        }

        void addCell(int cell) {
            if (cellCount < MOST_BYTES) {
                cells[cellCount] = cell;
                cellCount++;
            }
        }

        /** Ends the line to which the latest cells belong. */
        void addLine(int act) {
            if (lines < MOST_LINES) {
                cellsEnd[lines] = cellCount;
                acts[lines] = act;
                lines++;
            }
        }
    }

    /** Parts a text into TOKENS, one at a time. */
    private static final class Lexer {
        static final int WHEN = 0;
        static final int DO = 1;
        static final int WALK_WORD = 2;
        static final int REST_WORD = 3;
        static final int SELL_WORD = 4;
        static final int OR = 5;
        static final int AND = 6;
        static final int NOT = 7;
        static final int FIRST_NAME = 8;
        static final int NAMES = 9;
        static final int SEMICOLON = 17;
        static final int LESS = 18;
        static final int MORE = 19;
        static final int EQUAL = 20;
        static final int PLUS = 21;
        static final int MINUS = 22;
        static final int OPEN = 23;
        static final int CLOSE = 24;
        static final int NUMBER = 25;
        static final int UNKNOWN_NAME = 26;
        static final int END = 27;
        static final int NO_TOKEN = 28;

        private static final int WORD_BYTES = 8;
        private static final int NUMBER_DIGITS = 6;

        // A column of eight for each word, in the order of the TOKENS' numbers; so are the signs.
        private static final String WORDS =
            "when    do      walk    rest    sell    or      and     not     day     heads   weight  sore    grass   miles   stance  price   want    ";
        private static final String SIGNS = ";<>=+-()";

        int token = END;
        int place = 0;
        int number = 0;
        private final byte[] text;
        private final int length;
        private int next = 0;

        /** The text is so many first bytes of a row. */
        Lexer(byte[] row, int bytes) {
            text = row;
            length = Math.min(bytes, row.length);
        }

        void advance() {
            while (next < length && isBlank(byteAt(next))) {
                next++;
            }
            place = next;
            int found = byteAt(next);
            if (next >= length) {
                token = END;
            } else if (isLetter(found)) {
                scanWord();
            } else if (isDigit(found)) {
                scanNumber();
            } else {
                scanSign((char) found);
            }
        }

        private void scanWord() {
            while (next < length && isLetter(byteAt(next))) {
                next++;
            }
            token = next - place > WORD_BYTES ? NO_TOKEN : wordToken();
        }

        private void scanNumber() {
            number = 0;
            while (next < length && isDigit(byteAt(next))) {
                number = number * 10 + (byteAt(next) - '0');
                next++;
            }
            boolean stands = next - place <= NUMBER_DIGITS && !isLetter(byteAt(next));
            token = stands ? NUMBER : NO_TOKEN;
        }

        private void scanSign(char found) {
            int sign = SIGNS.indexOf(found);
            token = sign < 0 ? NO_TOKEN : SEMICOLON + sign;
            next++;
        }

        private int wordToken() {
            for (int column = 0; column + WORD_BYTES <= WORDS.length(); column += WORD_BYTES) {
                int same = 0;
                while (same < WORD_BYTES && letterAt(same) == WORDS.charAt(column + same)) {
                    same++;
                }
                if (same == WORD_BYTES) {
                    return column / WORD_BYTES;
                }
            }
            return UNKNOWN_NAME;
        }

        /** A letter of the word that ends at next; blanks follow it, as in a column of WORDS. */
        private int letterAt(int index) {
            int where = place + index;
            return where >= 0 && where < next && where < length ? text[where] : ' ';
        }

        /** Beyond the text there is a byte that is no part of any TOKEN. */
        private int byteAt(int index) {
            return index >= 0 && index < length ? text[index] & 255 : 0;
        }

        private static boolean isBlank(int found) {
            return found == 32 || found == 10;
        }

        private static boolean isLetter(int found) {
            return found >= 'a' && found <= 'z';
        }

        private static boolean isDigit(int found) {
            return found >= '0' && found <= '9';
        }
    }

    /** Reads a text as ORDERS, a method for each rule of the grammar; each answers whether it found no FAULT. */
    private static final class Parser {
        private static final int MOST_OPERANDS = 80;
        private static final int MOST_DEPTH = 8;
        private static final int FAULT_NO_TOKEN = 1;
        private static final int FAULT_CANT_STAND = 2;
        private static final int FAULT_NO_NAME = 3;

        int fault = 0;
        int faultPlace = NONE;
        private final Lexer lexer;
        private final Orders written;
        private int operands = 0;

        Parser(byte[] row, int bytes, Orders into) {
            lexer = new Lexer(row, bytes);
            written = into;
        }

        boolean read() {
            written.clear();
            lexer.advance();
            boolean stands = true;
            for (int line = 0; line < MOST_LINES && stands && lexer.token != Lexer.END; line++) {
                stands = take(Lexer.WHEN) && readE(0) && take(Lexer.DO) && readAct() && take(Lexer.SEMICOLON);
            }
            return stands && take(Lexer.END);
        }

        private boolean readAct() {
            if (lexer.token == Lexer.WALK_WORD) {
                return endLine(WALK);
            }
            if (lexer.token == Lexer.REST_WORD) {
                return endLine(0);
            }
            if (!take(Lexer.SELL_WORD)) {
                return false;
            }
            return lexer.token == Lexer.NUMBER ? endLine(lexer.number) : refuse();
        }

        private boolean endLine(int act) {
            written.addLine(act);
            lexer.advance();
            return true;
        }

        private boolean readE(int depth) {
            boolean stands = readBoth(depth);
            for (int n = 0; n < MOST_BYTES && stands && lexer.token == Lexer.OR; n++) {
                lexer.advance();
                stands = readBoth(depth) && write(Lexer.OR);
            }
            return stands;
        }

        private boolean readBoth(int depth) {
            boolean stands = readOne(depth);
            for (int n = 0; n < MOST_BYTES && stands && lexer.token == Lexer.AND; n++) {
                lexer.advance();
                stands = readOne(depth) && write(Lexer.AND);
            }
            return stands;
        }

        /** An e begins with a one, so that what lies too deep is refused here for both. */
        private boolean readOne(int depth) {
            if (depth >= MOST_DEPTH) {
                return refuse();
            }
            if (lexer.token == Lexer.NOT) {
                lexer.advance();
                return readOne(depth + 1) && write(Lexer.NOT);
            }
            if (!readSum(depth)) {
                return false;
            }
            int sign = lexer.token;
            if (sign != Lexer.LESS && sign != Lexer.MORE && sign != Lexer.EQUAL) {
                return true;
            }
            lexer.advance();
            return readSum(depth) && write(sign);
        }

        private boolean readSum(int depth) {
            boolean stands = readTerm(depth);
            for (int n = 0; n < MOST_BYTES && stands; n++) {
                int sign = lexer.token;
                if (sign != Lexer.PLUS && sign != Lexer.MINUS) {
                    return true;
                }
                lexer.advance();
                stands = readTerm(depth) && write(sign);
            }
            return stands;
        }

        private boolean readTerm(int depth) {
            if (lexer.token != Lexer.OPEN) {
                return readOperand();
            }
            lexer.advance();
            return readE(depth + 1) && take(Lexer.CLOSE);
        }

        private boolean readOperand() {
            int token = lexer.token;
            boolean isName = within(token, Lexer.FIRST_NAME, Lexer.FIRST_NAME + Lexer.NAMES - 1);
            boolean isOperand = isName || token == Lexer.NUMBER || token == Lexer.UNKNOWN_NAME;
            if (!isOperand || operands >= MOST_OPERANDS) {
                return refuse();
            }
            if (token == Lexer.UNKNOWN_NAME) {
                return refuseFor(FAULT_NO_NAME);
            }
            operands++;
            written.addCell(isName ? -1 - token : lexer.number);
            lexer.advance();
            return true;
        }

        private boolean take(int token) {
            if (lexer.token != token) {
                return refuse();
            }
            lexer.advance();
            return true;
        }

        private boolean write(int sign) {
            written.addCell(-1 - sign);
            return true;
        }

        private boolean refuse() {
            return refuseFor(lexer.token == Lexer.NO_TOKEN ? FAULT_NO_TOKEN : FAULT_CANT_STAND);
        }

        private boolean refuseFor(int reason) {
            fault = reason;
            faultPlace = lexer.place;
            return false;
        }
    }

    /** Finds the act that ORDERS ask for, from what a HERD's drover knows. */
    private static final class Reckoner {
        private final int[] nameValues = new int[Lexer.NAMES];
        private final int[] stack = new int[Parser.MOST_OPERANDS];
        private int top = 0;

        /** The values stand in the order of the NAMES' TOKENS. */
        void learn(Herd herd, Road road, int day, int price) {
            nameValues[0] = day;
            nameValues[1] = herd.heads;
            nameValues[2] = herd.weight;
            nameValues[3] = herd.sore;
            nameValues[4] = road.grassAt(herd.stance);
            nameValues[5] = road.milesOfStage(herd.stance);
            nameValues[6] = herd.stance;
            nameValues[7] = price;
            nameValues[8] = herd.want();
        }

        int choose(Orders orders) {
            int from = 0;
            for (int line = 0; line < orders.lines; line++) {
                int to = orders.cellsEnd[line];
                if (reckon(orders.cells, from, to) != 0) {
                    return orders.acts[line];
                }
                from = to;
            }
            return WALK;
        }

        private int reckon(int[] cells, int from, int to) {
            top = 0;
            for (int k = from; k < to && k < cells.length; k++) {
                if (cells[k] >= 0) {
                    push(cells[k]);
                } else {
                    reckonToken(-1 - cells[k]);
                }
            }
            return pop();
        }

        private void reckonToken(int token) {
            int name = token - Lexer.FIRST_NAME;
            if (name >= 0 && name < Lexer.NAMES) {
                push(nameValues[name]);
            } else if (token == Lexer.NOT) {
                push(pop() == 0 ? 1 : 0);
            } else {
                int right = pop();
                int left = pop();
                push(join(token, left, right));
            }
        }

        private static int join(int sign, int left, int right) {
            switch (sign) {
                case Lexer.OR: return left != 0 || right != 0 ? 1 : 0;
                case Lexer.AND: return left != 0 && right != 0 ? 1 : 0;
                case Lexer.LESS: return left < right ? 1 : 0;
                case Lexer.MORE: return left > right ? 1 : 0;
                case Lexer.EQUAL: return left == right ? 1 : 0;
                case Lexer.PLUS: return left + right;
                case Lexer.MINUS: return left - right;
                default: return 0;
            }
        }

        private void push(int value) {
            if (top >= 0 && top < stack.length) {
                stack[top] = value;
                top++;
            }
        }

        private int pop() {
            if (top <= 0 || top > stack.length) {
                return 0;
            }
            top--;
            return stack[top];
        }
    }

    /**
     * BEST for a HERD ALONE.
     *
     * Every WAY from one STANCE has the same walks, so GAIN is greatest with the most rests; and a WAY that is
     * shorter than D can rest first and still stands. So BEST has just D days. A rest behind a walk takes off
     * as much SORE as one ahead of it, or more, so to walk whenever SORE allows it is never worse. So of the
     * WAYS of D days the first walks as soon as it may, and only its last walk waits for the last day.
     */
    private static final class LoneWay {
        static final int MOST_DAYS = 60;

        final int days;
        private final Road road;
        private final int startStance;
        private final int startSore;

        LoneWay(Road road, int stance, int sore, int days) {
            this.road = road;
            this.days = days;
            startStance = stance;
            startSore = sore;
        }

        /** Whether it is there in time if it walks whenever it may. */
        boolean comesToFair() {
            int stance = startStance;
            int sore = startSore;
            for (int day = 0; day < days && stance < road.fair(); day++) {
                if (mayWalk(stance, sore)) {
                    sore += road.milesOfStage(stance);
                    stance++;
                } else {
                    sore = rested(sore);
                }
            }
            return stance == road.fair();
        }

        int bestGain() {
            int change = 0;
            for (int k = startStance; k < road.fair(); k++) {
                change -= road.milesOfStage(k) / 5;
            }
            int walks = road.fair() - startStance;
            // It grazes behind each walk but the one that comes to THE FAIR.
            return change + (walks - 1) + 3 * (days - walks);
        }

        int bestAct(int asked) {
            int stance = startStance;
            int sore = startSore;
            for (int day = 0; day < days; day++) {
                boolean waits = stance + 1 == road.fair() && day + 1 < days;
                boolean walks = mayWalk(stance, sore) && !waits;
                if (day == asked) {
                    return walks ? 1 : 0;
                }
                if (walks) {
                    sore += road.milesOfStage(stance);
                    stance++;
                } else {
                    sore = rested(sore);
                }
            }
            return NONE;
        }

        private boolean mayWalk(int stance, int sore) {
            return sore + road.milesOfStage(stance) <= MOST_SORE;
        }

        private static int rested(int sore) {
            return Math.max(0, sore - EASED_BY_REST);
        }
    }

    /** BILLS, with the PASSINGS that tell who holds them. */
    private static final class Bills {
        private static final int MOST_BILLS = 20;
        private static final int LAST_DUE = 100000;

        int count = 0;
        final Passings passings = new Passings();
        private final int[] amounts = new int[MOST_BILLS];
        private final int[] hands = new int[MOST_BILLS];
        private final int[] dueOn = new int[MOST_BILLS];
        private final int[] paidOn = new int[MOST_BILLS];
        private final int[] paidTo = new int[MOST_BILLS];

        boolean has(int bill) {
            return bill >= 0 && bill < count;
        }

        int make(int amount, int hand, int due) {
            boolean canBe = within(amount, 1, 1000000) && Passings.isHand(hand) && within(due, 0, LAST_DUE);
            if (!canBe || count >= MOST_BILLS) {
                return NONE;
            }
            amounts[count] = amount;
            hands[count] = hand;
            dueOn[count] = due;
            paidOn[count] = NONE;
            paidTo[count] = NONE;
            count++;
            return count - 1;
        }

        int holderKnown(int bill, int atEndOf, int knownOn) {
            return has(bill) ? passings.follow(bill, hands[bill], atEndOf, knownOn) : NONE;
        }

        int settle(int bill, int today) {
            if (!has(bill) || dueOn[bill] > today || paidOn[bill] != NONE) {
                return NONE;
            }
            paidOn[bill] = today;
            paidTo[bill] = holderKnown(bill, today, today);
            return paidTo[bill];
        }

        int tell(int bill, int what) {
            if (!has(bill)) {
                return NONE;
            }
            switch (what) {
                case 0: return amounts[bill];
                case 1: return paidOn[bill];
                case 2: return paidTo[bill];
                default: return NONE;
            }
        }
    }

    /** PASSINGS of all BILLS. */
    private static final class Passings {
        private static final int MOST_PASSINGS = 60;

        int count = 0;
        private final int[] billOf = new int[MOST_PASSINGS];
        private final int[] fromHand = new int[MOST_PASSINGS];
        private final int[] toHand = new int[MOST_PASSINGS];
        private final int[] passedOn = new int[MOST_PASSINGS];
        private final int[] toldOn = new int[MOST_PASSINGS];
        private final int[] untoldOn = new int[MOST_PASSINGS];
        // The numbers of the PASSINGS in order of their days, of like ones as they were told.
        private final int[] byDay = new int[MOST_PASSINGS];

        static boolean isHand(int hand) {
            return within(hand, 0, 9);
        }

        int add(int bill, int from, int to, int day, int today) {
            if (!isHand(from) || !isHand(to) || from == to || count >= MOST_PASSINGS) {
                return NONE;
            }
            billOf[count] = bill;
            fromHand[count] = from;
            toHand[count] = to;
            passedOn[count] = day;
            toldOn[count] = today;
            untoldOn[count] = NONE;
            placeByDay(count);
            count++;
            return count - 1;
        }

        private void placeByDay(int passing) {
            int slot = passing;
            for (; slot > 0 && passedOn[byDay[slot - 1]] > passedOn[passing]; slot--) {
                byDay[slot] = byDay[slot - 1];
            }
            byDay[slot] = passing;
        }

        boolean takeBack(int passing, int today) {
            if (passing < 0 || passing >= count || untoldOn[passing] != NONE) {
                return false;
            }
            untoldOn[passing] = today;
            return true;
        }

        int follow(int bill, int firstHand, int atEndOf, int knownOn) {
            int hand = firstHand;
            for (int k = 0; k < count; k++) {
                int passing = byDay[k];
                boolean counts = billOf[passing] == bill && passedOn[passing] <= atEndOf;
                if (counts && isKnown(passing, knownOn) && fromHand[passing] == hand) {
                    hand = toHand[passing];
                }
            }
            return hand;
        }

        private boolean isKnown(int passing, int day) {
            boolean untold = untoldOn[passing] != NONE && untoldOn[passing] <= day;
            return toldOn[passing] <= day && !untold;
        }
    }
}
