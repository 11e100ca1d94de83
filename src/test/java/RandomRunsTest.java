import java.lang.reflect.Method;
import java.util.ArrayList;
import java.util.Arrays;
import java.util.HashMap;
import java.util.List;
import java.util.Map;
import java.util.Random;
import java.util.TreeMap;

/** Runs of 512 random calls, each on a new object and on PlainArcade; seeds are fixed. */
public final class RandomRunsTest {
    private static final int NONE = ArcadeRents.NONE;
    private static final Map<String, Method> CLASS = new HashMap<>(), PLAIN = new HashMap<>();
    /** Calls by name and the kind of their answer, so that a run that never meets one is seen. */
    private static final Map<String, Integer> met = new TreeMap<>();

    private final Random r;
    private final ArcadeRents x = new ArcadeRents();
    private final PlainArcade y = new PlainArcade();
    private final List<String> log = new ArrayList<>();
    private final int[] weights;
    private boolean wrong = false;

    private RandomRunsTest(long seed) {
        r = new Random(seed);
        weights = new int[NAMES.length];
        for (int i = 0; i < weights.length; i++) weights[i] = r.nextInt(5) == 0 ? 0 : 2 + r.nextInt(10);
        // going back undoes what makes long runs worth while, and bad texts use up calls
        for (int i = 0; i < weights.length; i++) {
            if (List.of("back", "keep", "sheet", "feed", "trim", "lease", "TAKES", "TELLS", "BRINK", "SHUFFLE").contains(NAMES[i])) weights[i] = Math.min(1, weights[i]);
        }
    }

    private static final String[] NAMES = {
        "feet", "lay", "door", "people", "shop", "isOf", "move", "months", "rule", "stands", "past",
        "take", "withdraw", "line", "takings", "beyond", "feed", "trim", "lease", "rent", "rents", "charge",
        "fall", "fallen", "without", "broken", "mix", "mixed", "tell", "check",
        "keep", "back", "sheet", "mark", "copy", "count", "TEXT", "ROWS", "SHUFFLE", "TAKES", "TELLS", "BRINK"};

    public static void main(String[] args) throws Exception {
        for (Method m : ArcadeRents.class.getMethods()) {
            if (m.getDeclaringClass() == ArcadeRents.class) CLASS.put(m.getName(), m);
        }
        for (String name : CLASS.keySet()) {
            PLAIN.put(name, PlainArcade.class.getDeclaredMethod(name, CLASS.get(name).getParameterTypes()));
        }
        int runs = args.length > 0 ? Integer.parseInt(args[0]) : 1000;
        long first = args.length > 1 ? Long.parseLong(args[1]) : 1;
        int bad = 0;
        for (long seed = first; seed < first + runs && bad < 3; seed++) {
            RandomRunsTest run = new RandomRunsTest(seed);
            run.go();
            if (run.wrong) {
                bad++;
                System.out.println("seed " + seed + ":");
                run.log.forEach(System.out::println);
            }
        }
        bad += unmet();
        if (args.length > 2) met.forEach((k, v) -> System.out.println(k + " " + v));
        System.out.println(bad == 0 ? runs + " random runs are as the plain arcade" : "random runs fail");
        if (bad != 0) System.exit(1);
    }

    private static int unmet() {
        int bad = 0;
        String[] due = {"lay NOTHING", "door FULL", "shop FULL", "move NO", "move FULL", "months BAD", "stands NO",
            "take FULL", "withdraw NO", "beyond NO", "beyond -1", "beyond 1", "beyond 0", "feed FULL", "lease fault",
            "lease +", "rent +", "rents +", "charge +", "fall +", "fall FULL", "without NO", "without +", "broken +",
            "mix SPENT", "mix +", "mixed +", "mixed NONE", "mixed SPENT", "check SPENT", "check 0", "check +",
            "tell FULL", "back NO", "back +", "sheet SIZE", "mark INDEX", "mark NOTHING", "copy INDEX", "copy NOTHING"};
        for (String d : due) {
            if (!met.containsKey(d)) {
                bad++;
                System.out.println("no run met " + d);
            }
        }
        return bad;
    }

    private void go() throws Exception {
        for (int s = 0; s < 2; s++) if (r.nextBoolean()) call("sheet", s, r.nextInt(17));
        if (r.nextInt(3) > 0) furnish();
        for (int i = 0; i < 600 && log.size() < 512 && !wrong; i++) one(pick());
    }

    private String pick() {
        int all = Arrays.stream(weights).sum();
        int at = r.nextInt(all);
        for (int i = 0; i < weights.length; i++) {
            at -= weights[i];
            if (at < 0) return NAMES[i];
        }
        return NAMES[0];
    }

    private void furnish() throws Exception {
        int doors = r.nextInt(4), shops = 2 + r.nextInt(11);
        for (int i = 0; i < doors; i++) call("door", r.nextInt(12), r.nextInt(10000));
        for (int i = 0; i < shops; i++) one("shop");
        for (int i = 0; i < shops; i++) if (r.nextInt(4) > 0) call("move", i, r.nextInt(12));
    }

    private void call(String name, Integer... args) throws Exception {
        if (log.size() >= 512 || wrong) return;
        int due = (Integer) PLAIN.get(name).invoke(y, (Object[]) args);
        int got = (Integer) CLASS.get(name).invoke(x, (Object[]) args);
        log.add(name + Arrays.toString(args) + " -> " + got + (got == due ? "" : ", due is " + due));
        wrong = got != due;
        met.merge(name + " " + kindOf(name, due), 1, Integer::sum);
    }

    private static String kindOf(String name, int due) {
        switch (due) {
            case ArcadeRents.BAD: return "BAD";
            case ArcadeRents.NO: return "NO";
            case ArcadeRents.FULL: return "FULL";
            case ArcadeRents.SPENT: return "SPENT";
            case ArcadeRents.NONE: return "NONE";
            case ArcadeRents.NOTHING: return "NOTHING";
            case ArcadeRents.INDEX: return "INDEX";
            case ArcadeRents.SIZE: return "SIZE";
            default:
        }
        if (name.equals("beyond")) return "" + due;
        return due > 0 ? "+" : due == 0 ? "0" : name.equals("lease") ? "fault" : "-";
    }

    /** Mostly from least to most, now and then right beside these or far off. */
    private int in(int least, int most) {
        switch (r.nextInt(40)) {
            case 0: return least - 1;
            case 1: return most + 1;
            case 2: return r.nextInt();
            case 3: return least;
            case 4: return most;
            default: return most < least ? least : least + r.nextInt(most - least + 1);
        }
    }

    private int shop() { return in(0, Math.max(0, y.shops() - 1)); }
    private int place() { return in(0, 11); }
    private int month() { return r.nextInt(3) == 0 ? y.today() : in(0, y.today()); }
    private int tries() { return r.nextInt(3) == 0 ? 50000 : in(1, r.nextBoolean() ? 50000 : 300); }
    private int bit() { return in(0, 1); }

    private void one(String name) throws Exception {
        switch (name) {
            case "feet": call(name, place(), in(10, 999)); break;
            case "lay": call(name, bit()); break;
            case "door": call(name, place(), in(0, 9999)); break;
            case "people": call(name, in(0, y.doors() - 1), in(0, 9999)); break;
            case "shop":
                call(name, in(0, 3), r.nextInt(3) == 0 ? in(0, 7) : r.nextInt(3), in(0, 99999),
                    r.nextInt(20) == 0 ? in(0, 1199) : 100 * r.nextInt(r.nextBoolean() ? 4 : 12) + 1 + r.nextInt(99),
                    r.nextInt(4) == 0 ? 1 + r.nextInt(9) : in(1, 999));
                break;
            case "isOf": call(name, shop(), in(0, 3)); break;
            case "move": call(name, shop(), r.nextInt(5) == 0 ? NONE : place()); break;
            case "months": call(name, r.nextInt(8) == 0 ? in(1, 24) : 1 + r.nextInt(3)); break;
            case "rule": call(name, bit(), in(0, 999) / (r.nextBoolean() ? 10 : 1)); break;
            case "stands": call(name, shop(), month(), in(0, 7)); break;
            case "past": call(name, place(), month()); break;
            case "take":
                call(name, shop(), month(), r.nextInt(4) == 0 ? in(-99999, 99999) : in(-2000, 20000)); break;
            case "withdraw": call(name, in(0, y.lines() - 1)); break;
            case "line": call(name, in(0, y.lines() - 1), in(0, 4)); break;
            case "takings": case "beyond": case "rent": call(name, shop(), month(), month()); break;
            case "feed":
                for (int i = r.nextInt(8) == 0 ? 12 : 1; i > 0; i--) call(name, r.nextInt(), r.nextInt(), r.nextInt());
                break;
            case "trim": call(name, in(0, y.taped())); break;
            case "lease": case "without": call(name, shop()); break;
            case "rents": call(name, month(), month()); break;
            case "charge": call(name, shop(), month(), in(0, r.nextBoolean() ? 100 : 999999)); break;
            case "fallen": call(name, in(0, 3)); break;
            case "fall": case "broken": case "check": case "keep": case "back": call(name); break;
            case "mix": if (r.nextInt(4) == 0) call(name, tries()); break;
            case "mixed": if (r.nextInt(4) == 0) call(name, tries(), place()); break;
            case "tell": call(name, in(0, 11)); break;
            case "sheet": call(name, bit(), in(0, 16)); break;
            case "mark": call(name, bit(), in(0, 15), r.nextInt(3) == 0 ? r.nextInt() : in(10, 999)); break;
            case "copy": call(name, bit(), in(0, 15), bit(), in(0, 15), in(0, 10)); break;
            case "count": call(name, in(0, 9)); break;
            case "TEXT": text(); break;
            case "ROWS": rows(); break;
            case "SHUFFLE": shuffle(20); break;
            case "TAKES": for (int i = 0; i < 30; i++) likelyTake(); break;
            case "TELLS": for (int i = 0; i < 25; i++) one("tell"); break;
            default: if (r.nextInt(6) == 0) brink();
        }
    }

    private void likelyTake() throws Exception {
        int m = Math.max(0, y.today() - r.nextInt(3));
        int coins = Math.max(0, y.stands(r.nextInt(Math.max(1, y.shops())), m, 3)) % 90000;
        call("take", r.nextInt(Math.max(1, y.shops())), m, r.nextInt(coins * 2 + 1000) - 300);
    }

    /** So many moves that a fall may find no room. */
    private void brink() throws Exception {
        for (int i = 0; i < 400 && y.count(6) < 197; i++) shuffle(1);
        for (int s = 0; s < 4; s++) {
            write("base 1 turn 1 leave o<" + (s + 2));
            call("lease", s);
        }
        call("fall");
        call("fallen", 0);
        call("count", 6);
    }

    private void shuffle(int many) throws Exception {
        for (int i = 0; i < many; i++) call("move", shop(), r.nextInt(3) == 0 ? NONE : r.nextInt(12));
    }

    /** Rows of the mix told rightly, or with a fault. */
    private void rows() throws Exception {
        if (r.nextInt(3) > 0) return;
        if (y.waits() > 0) call("check");
        List<Integer> due = y.rows();
        if (due == null) due = new ArrayList<>();
        if (r.nextInt(3) == 0 && !due.isEmpty()) due.set(r.nextInt(due.size()), r.nextInt(12));
        if (r.nextInt(5) == 0) due.add(r.nextInt(12));
        if (r.nextInt(5) == 0 && !due.isEmpty()) due.remove(due.size() - 1);
        for (int v : due) call("tell", v);
        call("check");
    }

    private void text() throws Exception {
        String leave = r.nextInt(3) == 0 ? e(3) : new String[] {"a=0", "o<3", "n=0", "x", "c<v", "t<100", "0", "1"}[r.nextInt(8)];
        String t = gap() + "base" + join(e(r.nextInt(5))) + "turn" + join(e(r.nextInt(5))) + "leave " + leave + gap();
        if (r.nextInt(4) == 0) t = spoil(t);
        if (t.length() > 132) t = r.nextInt(3) == 0 ? t.substring(0, 132) : "base t turn f*t leave o<2";
        write(t);
        call("lease", shop());
        if (r.nextInt(3) == 0) for (int s = 0; s < y.shops(); s++) call("rent", s, y.today(), y.today());
        if (r.nextInt(4) == 0) call("fall");
    }

    private void write(String t) throws Exception {
        call("trim", 0);
        for (int at = 0; at < t.length(); at += 12) {
            call("feed", four(t, at), four(t, at + 4), four(t, at + 8));
        }
        call("trim", t.length());
    }

    private String spoil(String t) {
        int at = r.nextInt(t.length());
        char sign = "0123456789 tfaovknmxcbz|&<=>+-*/!()A_".charAt(r.nextInt(36));
        if (r.nextInt(10) == 0) sign = (char) r.nextInt(256);
        switch (r.nextInt(5)) {
            case 0: return t.substring(0, at);
            case 1: return t.substring(0, at) + t.substring(at + 1);
            case 2: return t.substring(0, at) + sign + t.substring(at + 1);
            case 3: return t.replaceFirst("[tfaovknmxc0-9] ", (r.nextBoolean() ? "!!!!!(!!" : "((((((((") + "!!t ");
            default: return t.substring(0, at) + sign + t.substring(at);
        }
    }

    private static int four(String t, int at) {
        int v = 0;
        for (int i = at; i < at + 4; i++) v = v << 8 | (i < t.length() ? t.charAt(i) : ' ');
        return v;
    }

    private String gap() { return r.nextInt(4) == 0 ? " " : ""; }

    /** With blanks about it where words would meet. */
    private String join(String e) {
        return (r.nextInt(20) == 0 ? "" : " ") + e + (r.nextInt(20) == 0 ? "" : " ");
    }

    private String e(int depth) {
        if (depth <= 0) {
            return r.nextBoolean() ? "" + "tfaovknmxc".charAt(r.nextInt(10))
                : "" + (r.nextInt(4) == 0 ? r.nextInt(100000) : r.nextInt(12));
        }
        switch (r.nextInt(6)) {
            case 0: return "(" + gap() + e(depth - 1) + gap() + ")";
            case 1: return "!" + gap() + e(depth - 1);
            case 2:
                return (r.nextInt(9) == 0 ? "" : "(") + e(depth - 2) + gap() + "<=>".charAt(r.nextInt(3)) + e(depth - 2)
                    + (r.nextInt(9) == 0 ? "" : ")");
            default:
                return e(depth - 1 - r.nextInt(2)) + gap() + "|&+-*/+-*/".charAt(r.nextInt(10)) + gap() + e(depth - 1 - r.nextInt(2));
        }
    }
}
