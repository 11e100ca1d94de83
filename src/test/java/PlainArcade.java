import java.util.ArrayList;
import java.util.Arrays;
import java.util.List;
import java.util.Map;
import java.util.TreeMap;

/**
 * The document written a second time, as plainly as it goes and by other means than the class:
 * a map of standings for each month, an automaton for faults, leases worked out by splitting
 * their words, a search place by place. RandomRunsTest holds the two against one another.
 */
final class PlainArcade {
    static final int BAD = -1000000001, NO = -1000000002, FULL = -1000000003, SPENT = -1000000004,
            NONE = -1000000005, NOTHING = -1000000011, INDEX = -1000000013, SIZE = -1000000014;

    record Door(int place, int people) { }

    record Shop(int kind, int sort, int pull, int lure, int near, int spend, int ask) { }

    record Line(int shop, int month, int coins, int told, int withdrawn) { }

    record Lease(List<String> base, List<String> turn, List<String> leave) { }

    /** What an image keeps. */
    static final class Kept {
        int today = 0, moves = 0;
        int[] feet = new int[12];
        int[] rules = {50, 200};
        List<Door> doors = new ArrayList<>();
        List<Shop> shops = new ArrayList<>();
        List<Line> lines = new ArrayList<>();
        Map<Integer, Lease> leases = new TreeMap<>();
        /** By month: the standing at its end, where something moved. */
        TreeMap<Integer, Map<Integer, Integer>> standings = new TreeMap<>();
        List<Integer> fallen = new ArrayList<>();

        Kept another() {
            Kept k = new Kept();
            k.today = today;
            k.moves = moves;
            k.feet = feet.clone();
            k.rules = rules.clone();
            k.doors = new ArrayList<>(doors);
            k.shops = new ArrayList<>(shops);
            k.lines = new ArrayList<>(lines);
            k.leases = new TreeMap<>(leases);
            standings.forEach((month, s) -> k.standings.put(month, new TreeMap<>(s)));
            k.fallen = new ArrayList<>(fallen);
            return k;
        }

        /** Shop to place, of shops that are in. */
        Map<Integer, Integer> in(int month) {
            var entry = standings.floorEntry(month);
            return entry == null ? new TreeMap<>() : new TreeMap<>(entry.getValue());
        }

        void stand(Map<Integer, Integer> standing) {
            standings.put(today, new TreeMap<>(standing));
        }
    }

    private Kept k = new Kept();
    private Kept image = null;
    private List<Integer> tape = new ArrayList<>();
    private final List<Integer> waiting = new ArrayList<>();
    private final short[][] sheets = new short[2][];

    PlainArcade() {
        Arrays.fill(k.feet, 100);
    }

    private boolean noPlace(int p) { return p < 0 || p > 11; }
    private boolean noShop(int s) { return s < 0 || s >= k.shops.size(); }
    private boolean noMonth(int m) { return m < 0 || m > k.today; }

    int feet(int place, int v) {
        if (noPlace(place) || v < 10 || v > 999) return BAD;
        int was = k.feet[place];
        k.feet[place] = v;
        return was;
    }

    int lay(int sheet) {
        if (sheet < 0 || sheet > 1) return BAD;
        if (sheets[sheet] == null) return NOTHING;
        int came = 0;
        for (int i = 0; i < 12 && i < sheets[sheet].length; i++) {
            if (feet(i, sheets[sheet][i]) != BAD) came++;
        }
        return came;
    }

    int door(int place, int people) {
        if (noPlace(place) || people < 0 || people > 9999) return BAD;
        if (k.doors.size() == 4) return FULL;
        k.doors.add(new Door(place, people));
        return k.doors.size() - 1;
    }

    int people(int door, int v) {
        if (door < 0 || door >= k.doors.size() || v < 0 || v > 9999) return BAD;
        Door was = k.doors.set(door, new Door(k.doors.get(door).place, v));
        return was.people;
    }

    int shop(int kind, int sort, int how, int words, int ask) {
        if (kind < 0 || kind > 3 || sort < 0 || sort > 7 || how < 0 || words < 0) return BAD;
        Shop s = new Shop(kind, sort, how / 1000, how % 1000, words / 100, words % 100, ask);
        if (s.pull > 99 || s.near > 11 || s.spend < 1 || ask < 1 || ask > 999) return BAD;
        if (k.shops.size() == 12) return FULL;
        k.shops.add(s);
        return k.shops.size() - 1;
    }

    int isOf(int shop, int kind) {
        if (noShop(shop) || kind < 0 || kind > 3) return BAD;
        int[][] all = {{0}, {0, 1}, {0, 2}, {0, 2, 3}};
        for (int of : all[k.shops.get(shop).kind]) if (of == kind) return 1;
        return 0;
    }

    int move(int shop, int place) {
        if (noShop(shop) || place != NONE && noPlace(place)) return BAD;
        var in = k.in(k.today);
        int was = in.getOrDefault(shop, NONE);
        if (was == place || in.containsValue(place)) return NO;
        if (k.moves == 200) return FULL;
        k.moves++;
        if (place == NONE) in.remove(shop); else in.put(shop, place);
        k.stand(in);
        return was;
    }

    int months(int n) {
        if (n < 1 || n > 24 || k.today + n > 120) return BAD;
        return k.today += n;
    }

    int rule(int which, int v) {
        if (which < 0 || which > 1) return BAD;
        if (which == 0 ? v < 0 || v > 100 : v < 100 || v > 999) return BAD;
        int was = k.rules[which];
        k.rules[which] = v;
        return was;
    }

    /** People of a door who go to a shop. */
    private int going(Map<Integer, Integer> in, Door door, int shop) {
        int pulls = in.keySet().stream().mapToInt(s -> k.shops.get(s).pull).sum();
        return pulls == 0 ? 0 : door.people * k.shops.get(shop).pull / pulls;
    }

    private int comers(Map<Integer, Integer> in, int shop) {
        return k.doors.stream().mapToInt(d -> going(in, d, shop)).sum();
    }

    private int past(Map<Integer, Integer> in, int place) {
        int all = 0;
        for (Door d : k.doors) {
            for (var e : in.entrySet()) {
                int step = Integer.compare(e.getValue(), d.place);
                for (int at = d.place; at != e.getValue(); at += step) {
                    if (at == place) all += going(in, d, e.getKey());
                }
            }
        }
        return all;
    }

    private long foretold(Map<Integer, Integer> in, int shop) {
        Shop s = k.shops.get(shop);
        return (comers(in, shop) + (long) past(in, in.get(shop)) * s.lure / 1000) * s.spend;
    }

    private int anchors(Map<Integer, Integer> in, int shop) {
        return (int) in.keySet().stream().filter(s -> s != shop && k.shops.get(s).kind == 1).count();
    }

    private int beside(Map<Integer, Integer> in, int shop) {
        return (int) in.values().stream().filter(p -> Math.abs(p - in.get(shop)) == 1).count();
    }

    private int rivalNear(Map<Integer, Integer> in, int shop) {
        Shop own = k.shops.get(shop);
        return in.keySet().stream().anyMatch(s -> s != shop && k.shops.get(s).sort == own.sort
                && Math.abs(in.get(s) - in.get(shop)) <= own.near) ? 1 : 0;
    }

    int stands(int shop, int month, int what) {
        if (noShop(shop) || noMonth(month) || what < 0 || what > 7) return BAD;
        var in = k.in(month);
        if (what == 0) return in.getOrDefault(shop, NONE);
        if (!in.containsKey(shop)) return NO;
        return switch (what) {
            case 1 -> comers(in, shop);
            case 2 -> past(in, in.get(shop));
            case 3 -> (int) foretold(in, shop);
            case 4 -> in.size() - 1;
            case 5 -> anchors(in, shop);
            case 6 -> beside(in, shop);
            default -> rivalNear(in, shop);
        };
    }

    int past(int place, int month) {
        if (noPlace(place) || noMonth(month)) return BAD;
        return past(k.in(month), place);
    }

    int take(int shop, int month, int coins) {
        if (noShop(shop) || noMonth(month) || Math.abs((long) coins) > 99999) return BAD;
        if (k.lines.size() == 100) return FULL;
        k.lines.add(new Line(shop, month, coins, k.today, NONE));
        return k.lines.size() - 1;
    }

    int withdraw(int line) {
        if (line < 0 || line >= k.lines.size()) return BAD;
        Line l = k.lines.get(line);
        if (l.withdrawn != NONE) return NO;
        k.lines.set(line, new Line(l.shop, l.month, l.coins, l.told, k.today));
        return 1;
    }

    int line(int line, int what) {
        if (line < 0 || line >= k.lines.size() || what < 0 || what > 4) return BAD;
        Line l = k.lines.get(line);
        return new int[] {l.shop, l.month, l.coins, l.told, l.withdrawn}[what];
    }

    int takings(int shop, int month, int known) {
        if (noShop(shop) || noMonth(month) || noMonth(known)) return BAD;
        int all = 0;
        for (Line l : k.lines) {
            if (l.shop != shop || l.month != month || l.told > known) continue;
            if (l.withdrawn != NONE && l.withdrawn <= known) continue;
            all += l.coins;
        }
        return all < 0 ? 0 : all;
    }

    int beyond(int shop, int month, int known) {
        int t = takings(shop, month, known);
        if (t == BAD) return BAD;
        var in = k.in(month);
        if (!in.containsKey(shop)) return NO;
        long f = foretold(in, shop);
        return t < f * k.rules[0] / 100 ? -1 : t > f * k.rules[1] / 100 ? 1 : 0;
    }

    int feed(int a, int b, int c) {
        if (tape.size() > 120) return FULL;
        for (int v : new int[] {a, b, c}) {
            for (int i = 3; i >= 0; i--) tape.add(v >>> 8 * i & 255);
        }
        return tape.size();
    }

    int trim(int n) {
        if (n < 0 || n > tape.size()) return BAD;
        tape = new ArrayList<>(tape.subList(0, n));
        return n;
    }

    record Word(String text, int at, boolean tight) {
        boolean isWord() { return Character.isLetterOrDigit(text.charAt(0)) && text.charAt(0) < 128 && !text.matches("[A-Z]"); }
    }

    private static List<Word> words(List<Integer> bytes) {
        StringBuilder all = new StringBuilder();
        for (int b : bytes) all.append((char) b);
        var m = java.util.regex.Pattern.compile("[a-z]+|[0-9]+|[^ ]", java.util.regex.Pattern.DOTALL).matcher(all);
        List<Word> words = new ArrayList<>();
        int wordEnd = -1;
        while (m.find()) {
            Word w = new Word(m.group(), m.start(), m.start() == wordEnd);
            words.add(w);
            wordEnd = w.isWord() ? m.end() : -1;
        }
        return words;
    }

    int lease(int shop) {
        List<Word> words = words(tape);
        int end = tape.size();
        tape = new ArrayList<>();
        if (noShop(shop)) return BAD;
        String[] heads = {"base", "turn", "leave"};
        List<List<String>> parts = new ArrayList<>();
        int leaves = 0;
        // what is open: -1 an E that no sign closes, else how many ! stand right ahead of a (
        List<int[]> open = new ArrayList<>();
        boolean operand = false, tested = false;
        int bangs = 0;
        for (Word w : words) {
            String t = w.text;
            boolean letters = t.matches("[a-z]+"), digits = t.matches("[0-9]+");
            if (w.tight && (letters || digits)) return -100 - w.at;
            boolean closed = !operand && open.isEmpty();
            if (closed && parts.size() < 3 && t.equals(heads[parts.size()])) {
                parts.add(new ArrayList<>());
                operand = true;
                tested = false;
                continue;
            }
            if (parts.isEmpty()) return -100 - w.at;
            int openBangs = bangs + open.stream().mapToInt(o -> o[0]).sum();
            if (operand) {
                if (digits && t.length() < 6 || letters && t.matches("[tfaovknmxc]")) {
                    leaves++;
                    operand = false;
                    bangs = 0;
                } else if (t.equals("!") && openBangs < 8) {
                    bangs++;
                } else if (t.equals("(") && open.size() < 8) {
                    open.add(new int[] {bangs, tested ? 1 : 0});
                    bangs = 0;
                    tested = false;
                } else {
                    return -100 - w.at;
                }
            } else if (t.equals(")") && !open.isEmpty()) {
                tested = open.remove(open.size() - 1)[1] == 1;
            } else if ("+-*/".contains(t)) {
                operand = true;
            } else if ("<=>".contains(t) && !tested) {
                operand = true;
                tested = true;
            } else if ("&|".contains(t)) {
                operand = true;
                tested = false;
            } else {
                return -100 - w.at;
            }
            parts.get(parts.size() - 1).add(t);
        }
        if (parts.size() < 3 || operand || !open.isEmpty()) return -100 - end;
        k.leases.put(shop, new Lease(parts.get(0), parts.get(1), parts.get(2)));
        return leaves;
    }

    /** Splits at the last of the loosest signs that stand outside of brackets. */
    private int work(List<String> e, Map<Integer, Integer> in, int shop, int month, int known) {
        for (String signs : new String[] {"|", "&", "<=>", "+-", "*/"}) {
            int depth = 0;
            for (int i = e.size() - 1; i > 0; i--) {
                String t = e.get(i);
                if (t.equals(")")) depth++;
                if (t.equals("(")) depth--;
                if (depth == 0 && signs.contains(t)) {
                    int a = work(e.subList(0, i), in, shop, month, known);
                    int b = work(e.subList(i + 1, e.size()), in, shop, month, known);
                    return switch (t) {
                        case "|" -> a == 0 && b == 0 ? 0 : 1;
                        case "&" -> a == 0 || b == 0 ? 0 : 1;
                        case "<" -> a < b ? 1 : 0;
                        case "=" -> a == b ? 1 : 0;
                        case ">" -> a > b ? 1 : 0;
                        case "+" -> a + b;
                        case "-" -> a - b;
                        case "*" -> a * b;
                        default -> b == 0 ? 0 : (int) ((long) a / b);
                    };
                }
            }
        }
        String t = e.get(0);
        if (t.equals("!")) return work(e.subList(1, e.size()), in, shop, month, known) == 0 ? 1 : 0;
        if (t.equals("(")) return work(e.subList(1, e.size() - 1), in, shop, month, known);
        return switch (t) {
            case "t" -> takings(shop, month, known);
            case "f" -> k.feet[in.get(shop)];
            case "a" -> anchors(in, shop);
            case "o" -> in.size() - 1;
            case "v" -> past(in, in.get(shop));
            case "k" -> k.shops.get(shop).kind;
            case "n" -> beside(in, shop);
            case "m" -> month;
            case "x" -> rivalNear(in, shop);
            case "c" -> comers(in, shop);
            default -> Integer.parseInt(t);
        };
    }

    int rent(int shop, int month, int known) {
        if (noShop(shop) || noMonth(month) || noMonth(known)) return BAD;
        var in = k.in(month);
        Lease l = k.leases.get(shop);
        if (!in.containsKey(shop) || l == null) return 0;
        int base = work(l.base, in, shop, month, known), turn = work(l.turn, in, shop, month, known);
        return Math.max(0, Math.min(99999, base)) + Math.max(0, Math.min(99999, turn));
    }

    int rents(int month, int known) {
        if (noMonth(month) || noMonth(known)) return BAD;
        int all = 0;
        for (int s = 0; s < k.shops.size(); s++) all += rent(s, month, known);
        return all;
    }

    int charge(int shop, int month, int coins) {
        if (noShop(shop) || noMonth(month) || coins < 0 || coins > 999999) return BAD;
        Map<Integer, Integer> byPlace = new TreeMap<>();
        k.in(month).forEach((s, p) -> { if (k.shops.get(s).kind != 3) byPlace.put(p, s); });
        long all = byPlace.keySet().stream().mapToInt(p -> k.feet[p]).sum();
        Map<Integer, Integer> pays = new TreeMap<>();
        int left = coins;
        for (var e : byPlace.entrySet()) {
            int part = (int) ((long) coins * k.feet[e.getKey()] / all);
            pays.put(e.getValue(), part);
            left -= part;
        }
        for (int s : byPlace.values()) {
            if (left-- > 0) pays.merge(s, 1, Integer::sum);
        }
        return pays.getOrDefault(shop, 0);
    }

    private List<Integer> leavers(Map<Integer, Integer> in) {
        List<Integer> gone = new ArrayList<>();
        for (int s = 0; s < k.shops.size(); s++) {
            Lease l = k.leases.get(s);
            if (in.containsKey(s) && l != null && work(l.leave, in, s, k.today, k.today) != 0) {
                in.remove(s);
                gone.add(s);
                s = -1;
            }
        }
        return gone;
    }

    int fall() {
        var in = k.in(k.today);
        List<Integer> gone = leavers(in);
        if (k.moves + gone.size() > 200) return FULL;
        k.moves += gone.size();
        if (!gone.isEmpty()) k.stand(in);
        k.fallen = gone;
        return gone.size();
    }

    int fallen(int i) {
        if (i < 0) return BAD;
        return i < k.fallen.size() ? k.fallen.get(i) : NONE;
    }

    int without(int shop) {
        if (noShop(shop)) return BAD;
        var in = k.in(k.today);
        if (in.remove(shop) == null) return NO;
        return leavers(in).size();
    }

    private boolean breaks(int one, int place, int other, int at) {
        Shop a = k.shops.get(one), b = k.shops.get(other);
        int apart = Math.abs(place - at);
        return a.sort == b.sort && (apart <= a.near || apart <= b.near);
    }

    int broken() {
        var in = k.in(k.today);
        int pairs = 0;
        for (int a : in.keySet()) {
            for (int b : in.keySet()) if (a < b && breaks(a, in.get(a), b, in.get(b))) pairs++;
        }
        return pairs;
    }

    private int tries, worth, bestWorth, put;
    private Map<Integer, Integer> best;

    private boolean search(int most) {
        tries = 0;
        worth = 0;
        put = 0;
        best = null;
        return from(0, k.in(k.today), new TreeMap<>(), most);
    }

    /** standing: shop to place with those that were put; rows: place to shop of those alone. */
    private boolean from(int place, Map<Integer, Integer> standing, TreeMap<Integer, Integer> rows, int most) {
        if (place == 12 || standing.size() == k.shops.size()) {
            if (best == null || worth > bestWorth || worth == bestWorth && rows.size() < best.size()) {
                best = new TreeMap<>(rows);
                bestWorth = worth;
            }
            return true;
        }
        if (!from(place + 1, standing, rows, most)) return false;
        if (standing.containsValue(place)) return true;
        for (int s = 0; s < k.shops.size(); s++) {
            if (standing.containsKey(s)) continue;
            boolean bad = false;
            for (var e : standing.entrySet()) bad |= breaks(s, place, e.getKey(), e.getValue());
            if (bad) continue;
            if (++tries > most) return false;
            int w = k.shops.get(s).ask * k.feet[place] / 100;
            standing.put(s, place);
            rows.put(place, s);
            worth += w;
            boolean ended = from(place + 1, standing, rows, most);
            worth -= w;
            rows.remove(place);
            standing.remove(s);
            if (!ended) return false;
        }
        return true;
    }

    int mix(int tries) {
        if (tries < 1 || tries > 50000) return BAD;
        return search(tries) ? bestWorth : SPENT;
    }

    int mixed(int tries, int place) {
        if (tries < 1 || tries > 50000 || noPlace(place)) return BAD;
        return search(tries) ? best.getOrDefault(place, NONE) : SPENT;
    }

    int tell(int v) {
        if (waiting.size() == 24) return FULL;
        waiting.add(v);
        return waiting.size();
    }

    int check() {
        List<Integer> told = new ArrayList<>(waiting), due = new ArrayList<>();
        waiting.clear();
        if (!search(50000)) return SPENT;
        best.forEach((p, s) -> due.addAll(List.of(p, s)));
        if (told.equals(due)) return 0;
        int right = 0;
        while (right < told.size() && right < due.size() && told.get(right).equals(due.get(right))) right++;
        return 1 + right;
    }

    int keep() {
        image = k.another();
        return k.today;
    }

    int back() {
        if (image == null) return NO;
        k = image.another();
        return k.today;
    }

    int sheet(int s, int n) {
        if (s < 0 || s > 1 || n > 16) return BAD;
        if (n < 0) return SIZE;
        sheets[s] = new short[n];
        return n;
    }

    int mark(int s, int place, int v) {
        if (s < 0 || s > 1) return BAD;
        if (sheets[s] == null) return NOTHING;
        if (place < 0 || place >= sheets[s].length) return INDEX;
        int was = sheets[s][place];
        sheets[s][place] = (short) v;
        return was;
    }

    int copy(int from, int place, int to, int at, int many) {
        if (from < 0 || from > 1 || to < 0 || to > 1) return BAD;
        if (sheets[from] == null || sheets[to] == null) return NOTHING;
        try {
            System.arraycopy(sheets[from], place, sheets[to], at, many);
        } catch (ArrayIndexOutOfBoundsException e) {
            return INDEX;
        }
        return many;
    }

    int count(int what) {
        return switch (what) {
            case 0 -> k.doors.size();
            case 1 -> k.shops.size();
            case 2 -> k.in(k.today).size();
            case 3 -> k.lines.size();
            case 4 -> (int) k.lines.stream().filter(l -> l.withdrawn != NONE).count();
            case 5 -> k.leases.size();
            case 6 -> k.moves;
            case 7 -> waiting.size();
            case 8 -> tape.size();
            case 9 -> k.today;
            default -> BAD;
        };
    }

    /** The rows of the mix, or null if it is spent: for runs that tell them rightly. */
    List<Integer> rows() {
        List<Integer> due = new ArrayList<>();
        if (!search(50000)) return null;
        best.forEach((p, s) -> due.addAll(List.of(p, s)));
        return due;
    }

    int waits() { return waiting.size(); }
    int shops() { return k.shops.size(); }
    int lines() { return k.lines.size(); }
    int today() { return k.today; }
    int taped() { return tape.size(); }
    int doors() { return k.doors.size(); }
}
