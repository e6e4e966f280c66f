import java.util.ArrayList;
import java.util.HashMap;
import java.util.List;
import java.util.Map;

/**
 * The document once more, written in other ways than the class: lists, faults by what may stand next, an e by
 * splitting it, BEST by looking at every state. ModelTest compares the two.
 */
final class Model {
    private static final List<String> KEYS = List.of("when", "do", "walk", "rest", "sell", "or", "and", "not");
    private static final List<String> NAMES =
        List.of("day", "heads", "weight", "sore", "grass", "miles", "stance", "price", "want");

    private static final class Stance {
        int grass, grows, most, milesOn, left;
    }

    private static final class Herd {
        int heads, weight, need, start, sore, coins, left, sold, dead, stance, ate;
        List<List<Token>> lines = new ArrayList<>();
    }

    private record Token(String text, int place) {
        boolean is(String other) {
            return text.equals(other);
        }

        boolean isNumber() {
            return Character.isDigit(text.charAt(0));
        }

        boolean isWord() {
            return Character.isLetter(text.charAt(0));
        }
    }

    private record Letter(int price, int day) { }

    private record Way(int gain, int days, String acts) { }

    private static final class Bill {
        int amount, hand, due, paidOn = -1, paidTo = -1;
    }

    private static final class Passing {
        int bill, from, to, day, told;
        int untold = Integer.MAX_VALUE;
        boolean isUntold;
    }

    private final List<Stance> road = new ArrayList<>(List.of(new Stance(), new Stance()));
    private final List<Herd> herds = new ArrayList<>();
    private final List<Letter> letters = new ArrayList<>();
    private final List<Bill> bills = new ArrayList<>();
    private final List<Passing> passings = new ArrayList<>();
    private final StringBuilder tape = new StringBuilder();
    private int day, fault, place = -1;

    Model() {
        road.get(0).milesOn = 1;
    }

    int stance(int miles) {
        if (miles < 1 || miles > 30 || road.size() == 10 || !herds.isEmpty()) return -1;
        road.get(road.size() - 1).milesOn = miles;
        road.add(new Stance());
        return road.size() - 1;
    }

    boolean first(int miles) {
        if (miles < 1 || miles > 30 || !herds.isEmpty()) return false;
        road.get(0).milesOn = miles;
        return true;
    }

    boolean grass(int stance, int grass, int grows, int most) {
        if (stance < 0 || stance > road.size() - 2 || grows < 0 || grows > 1000) return false;
        if (most < 0 || most > 100000 || grass < 0 || grass > most) return false;
        Stance s = road.get(stance);
        s.grass = grass;
        s.grows = grows;
        s.most = most;
        return true;
    }

    int herd(int heads, int weight, int need, int start) {
        if (heads < 1 || heads > 500 || weight < 100 || weight > 600 || need < 1 || need > 20) return -1;
        if (start < day || start > 10000 || herds.size() == 6) return -1;
        Herd h = new Herd();
        h.heads = heads;
        h.weight = weight;
        h.need = need;
        h.start = start;
        herds.add(h);
        return herds.size() - 1;
    }

    int letter(int price) {
        if (price < 0 || price > 1000 || letters.size() == 30) return -1;
        letters.add(new Letter(price, day));
        return letters.size();
    }

    private int miles(int stance) {
        return road.subList(stance, road.size()).stream().mapToInt(s -> s.milesOn).sum();
    }

    int known(int stance) {
        if (stance < 0 || stance >= road.size()) return -1;
        int lag = (int) Math.ceil(miles(stance) / 40.0);
        int price = 0;
        int latest = -1;
        for (Letter l : letters) {
            if (l.day + lag <= day && l.day >= latest) {
                latest = l.day;
                price = l.price;
            }
        }
        return price;
    }

    int feed(int... ints) {
        if (tape.length() + 20 > 500) return -1;
        for (int i : ints) {
            tape.append((char) (i >>> 24)).append((char) (i >>> 16 & 255)).append((char) (i >>> 8 & 255)).append((char) (i & 255));
        }
        return tape.length();
    }

    int end(int n) {
        if (n < 0 || n > tape.length()) return -1;
        tape.setLength(n);
        return n;
    }

    int orders(int herd) {
        if (herd < 0 || herd >= herds.size()) return -2;
        String text = tape.toString();
        tape.setLength(0);
        List<Token> tokens = new ArrayList<>();
        int[] noToken = {-1};
        part(text, tokens, noToken);
        fault = 0;
        place = -1;
        List<List<Token>> lines = judge(text, tokens, noToken[0]);
        if (fault != 0) return -1;
        herds.get(herd).lines = lines;
        return lines.size();
    }

    /** All tokens up to the first place where there is none. */
    private static void part(String text, List<Token> tokens, int[] noToken) {
        int at = 0;
        while (at < text.length()) {
            String rest = text.substring(at);
            if (rest.charAt(0) == ' ' || rest.charAt(0) == '\n') {
                at++;
                continue;
            }
            String found = "";
            if (rest.matches("(?s)[a-z].*")) {
                found = rest.replaceFirst("(?s)^([a-z]+).*", "$1");
                if (found.length() > 8) found = "";
            } else if (rest.matches("(?s)[0-9].*")) {
                found = rest.replaceFirst("(?s)^([0-9]+).*", "$1");
                if (found.length() > 6 || rest.matches("(?s)[0-9]+[a-z].*")) found = "";
            } else if (";<>=+-()".indexOf(rest.charAt(0)) >= 0) {
                found = rest.substring(0, 1);
            }
            if (found.isEmpty()) {
                noToken[0] = at;
                return;
            }
            tokens.add(new Token(found, at));
            at += found.length();
        }
    }

    private void fail(int which, int where) {
        fault = which;
        place = where;
    }

    /** Goes from token to token with what may stand next; frames hold depth, nots and whether a sign was there. */
    private List<List<Token>> judge(String text, List<Token> tokens, int noToken) {
        List<List<Token>> lines = new ArrayList<>();
        List<int[]> frames = new ArrayList<>();
        String state = "line";
        boolean freshOne = false;
        int operands = 0;
        int lineStart = 0;
        for (int k = 0; k <= tokens.size(); k++) {
            if (k == tokens.size()) {
                if (noToken >= 0) fail(1, noToken);
                else if (!state.equals("line")) fail(2, text.length());
                return lines;
            }
            Token t = tokens.get(k);
            int[] frame = frames.isEmpty() ? null : frames.get(frames.size() - 1);
            boolean stands = false;
            switch (state) {
                case "line":
                    stands = t.is("when") && lines.size() < 8;
                    lineStart = k;
                    frames.clear();
                    frames.add(new int[] {0, 0, 0});
                    freshOne = true;
                    state = "operand";
                    break;
                case "operand":
                    if (freshOne && frame[0] + frame[1] >= 8) break;
                    if (t.is("not")) {
                        stands = freshOne;
                        frame[1]++;
                    } else if (t.is("(")) {
                        stands = true;
                        frames.add(new int[] {frame[0] + frame[1] + 1, 0, 0});
                        freshOne = true;
                    } else if (t.isNumber() || t.isWord() && !KEYS.contains(t.text)) {
                        stands = ++operands <= 80;
                        if (stands && t.isWord() && !NAMES.contains(t.text)) {
                            fail(3, t.place);
                            return lines;
                        }
                        state = "behind";
                    }
                    break;
                case "behind":
                    freshOne = false;
                    if (t.is("+") || t.is("-")) {
                        stands = true;
                        state = "operand";
                    } else if (t.is("<") || t.is(">") || t.is("=")) {
                        stands = frame[2]++ == 0;
                        state = "operand";
                    } else if (t.is("and") || t.is("or")) {
                        stands = true;
                        frame[1] = 0;
                        frame[2] = 0;
                        freshOne = true;
                        state = "operand";
                    } else if (t.is(")")) {
                        stands = frames.size() > 1;
                        frames.remove(frames.size() - 1);
                    } else if (t.is("do")) {
                        stands = frames.size() == 1;
                        state = "act";
                    }
                    break;
                case "act":
                    stands = t.is("walk") || t.is("rest") || t.is("sell");
                    state = t.is("sell") ? "number" : "semicolon";
                    break;
                case "number":
                    stands = t.isNumber();
                    state = "semicolon";
                    break;
                default:
                    stands = t.is(";");
                    lines.add(tokens.subList(lineStart, k));
                    state = "line";
            }
            if (!stands) {
                fail(2, t.place);
                return lines;
            }
        }
        return lines;
    }

    int fault(int what) {
        return what == 0 ? fault : what == 1 ? place : -1;
    }

    private int value(List<Token> e, Herd h) {
        for (String join : new String[] {"or", "and"}) {
            int at = lastOf(e, join);
            if (at >= 0) {
                boolean left = value(e.subList(0, at), h) != 0;
                boolean right = value(e.subList(at + 1, e.size()), h) != 0;
                return (join.equals("or") ? left || right : left && right) ? 1 : 0;
            }
        }
        if (e.get(0).is("not")) return value(e.subList(1, e.size()), h) == 0 ? 1 : 0;
        int at = lastOf(e, "<>=");
        if (at >= 0) {
            int left = value(e.subList(0, at), h);
            int right = value(e.subList(at + 1, e.size()), h);
            String sign = e.get(at).text;
            return (sign.equals("<") ? left < right : sign.equals(">") ? left > right : left == right) ? 1 : 0;
        }
        at = lastOf(e, "+-");
        if (at >= 0) {
            long left = value(e.subList(0, at), h);
            long right = value(e.subList(at + 1, e.size()), h);
            return (int) (e.get(at).is("+") ? left + right : left - right);
        }
        if (e.get(0).is("(")) return value(e.subList(1, e.size() - 1), h);
        return e.get(0).isNumber() ? Integer.parseInt(e.get(0).text) : named(e.get(0).text, h);
    }

    /** The last place outside all brackets of a word, or of one of some signs. */
    private static int lastOf(List<Token> e, String which) {
        int open = 0;
        for (int k = e.size() - 1; k >= 0; k--) {
            String t = e.get(k).text;
            if (t.equals(")")) open++;
            if (t.equals("(")) open--;
            boolean word = Character.isLetter(which.charAt(0));
            if (open == 0 && (word ? t.equals(which) : t.length() == 1 && which.contains(t))) return k;
        }
        return -1;
    }

    private int named(String name, Herd h) {
        Stance s = road.get(h.stance);
        Map<String, Integer> values = new HashMap<>();
        values.put("day", day);
        values.put("heads", h.heads);
        values.put("weight", h.weight);
        values.put("sore", h.sore);
        values.put("grass", s.grass);
        values.put("miles", s.milesOn);
        values.put("stance", h.stance);
        values.put("price", known(h.stance));
        values.put("want", h.heads * h.need);
        return values.get(name);
    }

    int days(int n) {
        if (n < 0 || n > 400) return -1;
        for (int k = 0; k < n; k++) {
            if (day == 100000) return k;
            for (Stance s : road) s.grass = Math.min(s.most, s.grass + s.grows);
            for (Herd h : herds) {
                if (h.start <= day && h.heads > 0) act(h);
            }
            day++;
        }
        return n;
    }

    private void act(Herd h) {
        String act = "walk";
        int number = 0;
        for (List<Token> line : h.lines) {
            int at = lastOf(line, "do");
            if (value(line.subList(1, at), h) != 0) {
                act = line.get(at + 1).text;
                number = act.equals("sell") ? Integer.parseInt(line.get(at + 2).text) : 0;
                break;
            }
        }
        if (act.equals("sell")) {
            int n = Math.min(number, h.heads);
            h.heads -= n;
            h.sold += n;
            gainCoins(h, (long) n * h.weight * known(h.stance) / 200);
        }
        if (!act.equals("walk")) {
            if (h.heads > 0) h.sore = Math.max(0, h.sore - 15);
        } else {
            walk(h);
        }
        if (h.heads > 0) eat(h, act.equals("walk"));
    }

    private void walk(Herd h) {
        int miles = road.get(h.stance).milesOn;
        h.stance++;
        h.sore += miles;
        h.weight = Math.max(0, h.weight - miles / 5);
        if (h.sore > 60) {
            int n = Math.min(h.heads, h.heads / 20 + 1);
            h.heads -= n;
            h.left += n;
            road.get(h.stance).left += n;
        }
        if (h.stance == road.size() - 1) {
            gainCoins(h, (long) h.heads * h.weight * known(h.stance) / 100);
            h.sold += h.heads;
            h.heads = 0;
        }
    }

    private static void gainCoins(Herd h, long more) {
        h.coins = (int) Math.min(2000000000L, h.coins + more);
    }

    private void eat(Herd h, boolean walked) {
        Stance s = road.get(h.stance);
        int want = h.heads * h.need;
        boolean enough = s.grass >= want;
        int eaten = enough ? want : s.grass;
        s.grass -= eaten;
        h.ate += eaten;
        h.weight += enough ? walked ? 1 : 3 : -4;
        h.weight = Math.max(0, Math.min(700, h.weight));
        if (h.weight < 80) {
            int n = Math.min(h.heads, h.heads / 10 + 1);
            h.heads -= n;
            h.dead += n;
        }
    }

    int of(int herd, int what) {
        if (herd < 0 || herd >= herds.size() || what < 0 || what > 9) return -1;
        Herd h = herds.get(herd);
        return new int[] {h.heads, h.weight, h.sore, h.stance, h.coins, h.left, h.sold, h.dead, h.lines.size(), h.ate}[what];
    }

    int at(int stance, int what) {
        if (stance < 0 || stance >= road.size() || what < 0 || what > 4) return -1;
        Stance s = road.get(stance);
        return new int[] {s.grass, s.grows, s.most, miles(stance), s.left}[what];
    }

    private Way best(int herd, int d) {
        if (herd < 0 || herd >= herds.size() || d < 1 || d > 60) return null;
        Herd h = herds.get(herd);
        return h.heads == 0 ? null : best(h.stance, h.sore, d, new HashMap<>());
    }

    private Way best(int stance, int sore, int left, Map<Integer, Way> seen) {
        if (stance == road.size() - 1) return new Way(0, 0, "");
        if (left == 0) return null;
        int key = (stance * 1000 + sore) * 100 + left;
        if (seen.containsKey(key)) return seen.get(key);
        int miles = road.get(stance).milesOn;
        Way walk = sore + miles > 60 ? null : best(stance + 1, sore + miles, left - 1, seen);
        if (walk != null) {
            int change = (stance + 1 == road.size() - 1 ? 0 : 1) - miles / 5;
            walk = new Way(walk.gain + change, walk.days + 1, "1" + walk.acts);
        }
        Way rest = best(stance, Math.max(0, sore - 15), left - 1, seen);
        if (rest != null) rest = new Way(rest.gain + 3, rest.days + 1, "0" + rest.acts);
        Way best = walk;
        if (walk == null || rest != null && (rest.gain > walk.gain || rest.gain == walk.gain && rest.days < walk.days)) {
            best = rest;
        }
        seen.put(key, best);
        return best;
    }

    int gain(int herd, int d) {
        Way way = best(herd, d);
        return way == null ? -100000 : way.gain;
    }

    int length(int herd, int d) {
        Way way = best(herd, d);
        return way == null ? -1 : way.days;
    }

    int act(int herd, int d, int k) {
        Way way = best(herd, d);
        return way == null || k < 0 || k >= way.days ? -1 : way.acts.charAt(k) - '0';
    }

    int bill(int amount, int hand, int due) {
        if (amount < 1 || amount > 1000000 || hand < 0 || hand > 9 || due < 0 || due > 100000) return -1;
        if (bills.size() == 20) return -1;
        Bill b = new Bill();
        b.amount = amount;
        b.hand = hand;
        b.due = due;
        bills.add(b);
        return bills.size() - 1;
    }

    int pass(int bill, int from, int to, int on) {
        if (bill < 0 || bill >= bills.size() || from < 0 || from > 9 || to < 0 || to > 9 || from == to) return -1;
        if (on < 0 || on > day || passings.size() == 60) return -1;
        Passing p = new Passing();
        p.bill = bill;
        p.from = from;
        p.to = to;
        p.day = on;
        p.told = day;
        passings.add(p);
        return passings.size() - 1;
    }

    boolean untell(int passing) {
        if (passing < 0 || passing >= passings.size() || passings.get(passing).isUntold) return false;
        passings.get(passing).isUntold = true;
        passings.get(passing).untold = day;
        return true;
    }

    int holder(int bill, int d, int k) {
        if (bill < 0 || bill >= bills.size()) return -1;
        int hand = bills.get(bill).hand;
        List<Passing> known = new ArrayList<>();
        for (Passing p : passings) {
            boolean untold = p.isUntold && p.untold <= k;
            if (p.bill == bill && p.day <= d && p.told <= k && !untold) known.add(p);
        }
        known.sort((a, b) -> Integer.compare(a.day, b.day));
        for (Passing p : known) {
            if (p.from == hand) hand = p.to;
        }
        return hand;
    }

    int pay(int bill) {
        if (bill < 0 || bill >= bills.size()) return -1;
        Bill b = bills.get(bill);
        if (b.due > day || b.paidOn >= 0) return -1;
        b.paidOn = day;
        b.paidTo = holder(bill, day, day);
        return b.paidTo;
    }

    int paid(int bill, int what) {
        if (bill < 0 || bill >= bills.size() || what < 0 || what > 2) return -1;
        Bill b = bills.get(bill);
        return new int[] {b.amount, b.paidOn, b.paidTo}[what];
    }

    int about(int what) {
        if (what < 0 || what > 6) return -1;
        return new int[] {day, road.size(), herds.size(), letters.size(), bills.size(), passings.size(), tape.length()}[what];
    }
}
