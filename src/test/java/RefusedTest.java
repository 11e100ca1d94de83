import java.lang.reflect.InvocationTargetException;
import java.lang.reflect.Method;
import java.util.ArrayList;
import java.util.Arrays;
import java.util.IdentityHashMap;
import java.util.List;
import java.util.Map;
import java.util.Random;
import java.util.TreeMap;
import java.util.TreeSet;

/**
 * "A call that is refused .. changes nothing (but the tape and the numbers that wait, where told)":
 * in several states each refusal of each promise is called forth, and what other calls answer then
 * is held against the answers of an object on which it was not made. Beside that, no call throws.
 */
public final class RefusedTest {
    private static final int BAD = -1000000001, NO = -1000000002, FULL = -1000000003, SPENT = -1000000004,
            NONE = -1000000005, NOTHING = -1000000011, INDEX = -1000000013, SIZE = -1000000014;
    private static final int MIN = Integer.MIN_VALUE, MAX = Integer.MAX_VALUE, LAST_CALL = 512;
    private static final Map<String, Method> METHODS = new TreeMap<>();

    private static final TreeSet<Integer> promises = new TreeSet<>();
    private static int refusals = 0, asked = 0, wrong = 0;

    record Call(String name, int... args) {
        int on(ArcadeRents x) {
            try {
                return (Integer) METHODS.get(name).invoke(x, Arrays.stream(args).boxed().toArray());
            } catch (InvocationTargetException e) {
                say(this + " throws " + e.getCause());
                return 0;
            } catch (IllegalAccessException e) {
                throw new IllegalStateException(e);
            }
        }

        @Override
        public String toString() {
            return name + Arrays.toString(args);
        }
    }

    /** Calls that are made one after the other on a new object. */
    static final class Script {
        final String what;
        final List<Call> calls = new ArrayList<>();
        /** What this state answers to each probe, worked out once. */
        final Map<List<Call>, List<Integer>> answers = new IdentityHashMap<>();

        Script(String what) {
            this.what = what;
        }

        Script then(String name, int... args) {
            calls.add(new Call(name, args));
            return this;
        }

        /** A text, cut to its length. */
        Script text(String text) {
            for (int at = 0; at < text.length(); at += 12) {
                then("feed", Bench.four(text, at), Bench.four(text, at + 4), Bench.four(text, at + 8));
            }
            return then("trim", text.length());
        }

        Script lease(int shop, String text) {
            return text(text).then("lease", shop);
        }

        Script and(String more, Call call) {
            Script s = new Script(what + ", " + more);
            s.calls.addAll(calls);
            s.calls.add(call);
            return s;
        }

        ArcadeRents made() {
            ArcadeRents x = new ArcadeRents();
            for (Call call : calls) call.on(x);
            return x;
        }

        List<Integer> due(List<Call> probe) {
            return answers.computeIfAbsent(probe, p -> ask(made(), p));
        }
    }

    private static List<Integer> ask(ArcadeRents x, List<Call> probe) {
        List<Integer> answers = new ArrayList<>();
        for (Call call : probe) answers.add(call.on(x));
        return answers;
    }

    private static void say(String what) {
        wrong++;
        if (wrong < 40) System.out.println(what);
    }

    public static void main(String[] args) {
        for (Method m : ArcadeRents.class.getMethods()) {
            if (m.getDeclaringClass() == ArcadeRents.class) METHODS.put(m.getName(), m);
        }
        Script[] states = {empty(), busy(), crowded(), moved(), lined(), spent(true)};
        for (Script state : states) everywhere(state);
        empties(states[0]);
        busies(states[1]);
        crowdeds(states[2]);
        moveds(states[3]);
        lineds(states[4]);
        spents(states[5]);
        for (Script state : states) anyArguments(state);
        if (!promises.containsAll(List.of(2, 3, 4, 5, 6, 7, 8, 9, 10, 11, 12, 13, 14, 15, 16, 17, 18, 19, 20, 21, 22, 23,
                24, 25, 26, 28, 29, 30, 31, 33, 34, 35, 36, 37))) say("refusals of these promises alone: " + promises);
        System.out.println(wrong == 0 ? refusals + " refusals, " + asked + " answers as if they had not been"
                : wrong + " answers are not as due");
        if (wrong != 0) System.exit(1);
    }

    // ---- states

    private static Script empty() {
        return new Script("a new object");
    }

    private static Script busy() {
        Script s = new Script("a busy arcade");
        s.then("door", 0, 1000).then("door", 11, 500);
        s.then("shop", 1, 0, 30500, 210, 300).then("shop", 0, 1, 10100, 205, 100).then("shop", 3, 1, 10000, 199, 50);
        s.then("shop", 2, 0, 5000, 1105, 80).then("shop", 0, 4, 0, 301, 120);
        s.then("move", 0, 5).then("move", 1, 2).then("move", 2, 4);
        s.lease(1, "base f*2 turn t/10 leave a=0").lease(2, "base 300 turn v/40 leave o<2");
        s.lease(0, "base c turn t leave m>90").lease(3, "base 0 turn 0 leave 1");
        s.then("take", 1, 0, 5000).then("take", 0, 0, 700).then("months", 2).then("move", 3, 8).then("fall");
        s.then("take", 1, 0, -300).then("withdraw", 1).then("take", 2, 2, 99);
        s.then("rule", 1, 150).then("feet", 2, 250).then("keep");
        s.then("months", 1).then("feet", 5, 500).then("move", 1, 3).then("take", 1, 3, 4444).then("rule", 0, 40);
        s.then("people", 1, 600).then("withdraw", 0);
        s.then("sheet", 0, 13).then("mark", 0, 0, 77).then("mark", 0, 12, -5);
        s.text("base 17 turn m leave 0");
        // the one row of the mix, and one too many
        return s.then("tell", 2).then("tell", 4).then("tell", 3);
    }

    /** As many doors, shops, leases, months, bytes and numbers as there may be. */
    private static Script crowded() {
        Script s = new Script("a crowded arcade");
        for (int i = 0; i < 4; i++) s.then("door", i * 3, 9999 - i);
        for (int i = 0; i < 12; i++) s.then("shop", i % 4, i % 8, 5100 + 1000 * i, 101 + 100 * (i % 3), 100 + i);
        for (int i = 0; i < 12; i++) s.then("move", i, i);
        for (int i = 0; i < 12; i++) s.lease(i, "base c turn f leave o<" + (i % 3));
        for (int i = 0; i < 5; i++) s.then("months", 24);
        s.then("sheet", 0, 0).then("sheet", 1, 16);
        for (int i = 0; i < 16; i++) s.then("mark", 1, i, 100 + i);
        for (int i = 0; i < 24; i++) s.then("tell", i);
        return s.text("base 17 turn m leave 0" + " ".repeat(110));
    }

    /** 200 moves were told, and three shops would leave. */
    private static Script moved() {
        Script s = new Script("an arcade with 200 moves");
        for (int i = 0; i < 5; i++) s.then("shop", 0, i, 1000, 101, 100);
        s.then("move", 1, 1).lease(1, "base 5 turn 0 leave 1").then("fall").then("keep");
        s.then("months", 1).then("move", 1, 1).then("move", 2, 2).then("move", 3, 3);
        for (int i = 0; i < 195; i++) s.then("move", 0, i % 2 == 0 ? 11 : NONE);
        for (int shop = 2; shop < 4; shop++) s.lease(shop, "base 5 turn 0 leave 1");
        return s;
    }

    private static Script lined() {
        Script s = new Script("an arcade with 100 lines");
        s.then("shop", 0, 0, 1000, 101, 100).then("shop", 0, 0, 1000, 101, 100).then("door", 0, 100).then("move", 0, 0);
        for (int i = 0; i < 50; i++) s.then("take", i % 2, 0, i);
        s.then("months", 1).then("withdraw", 7).then("keep");
        for (int i = 50; i < 100; i++) s.then("take", i % 2, i % 3 == 0 ? 0 : 1, 50 - i + 3);
        return s.then("months", 1).then("withdraw", 0).then("withdraw", 99).then("lease", 0);
    }

    /** THE MIX would need 50001 tries. */
    private static Script spent(boolean told) {
        int[] sort = {3, 1, 1, 2, 3, 1, 0, 4, 1}, near = {1, 1, 0, 7, 0, 2, 0, 1, 1}, at = {5, 6, 9};
        Script s = new Script("an arcade with too many tries");
        for (int i = 0; i < 9; i++) s.then("shop", 0, sort[i], 0, 100 * near[i] + 1, 100);
        for (int i = 0; i < 3; i++) s.then("move", i, at[i]);
        if (told) s.then("tell", 5).then("tell", 6);
        return s;
    }

    // ---- what is asked then

    private static final List<List<Call>> PROBES = List.of(standing(0), standing(1), standing(2), standing(3),
            money(), lines(), counts(), rest(), backAgain());

    private static List<Call> standing(int month) {
        List<Call> probe = new ArrayList<>();
        for (int shop = 0; shop < 12; shop++) {
            for (int what = 0; what <= 7; what++) probe.add(new Call("stands", shop, month, what));
        }
        for (int place = 0; place < 12; place++) probe.add(new Call("past", place, month));
        return probe;
    }

    private static List<Call> money() {
        List<Call> probe = new ArrayList<>();
        for (int shop = 0; shop < 12; shop++) {
            for (int known : new int[] {0, 2}) {
                for (String name : new String[] {"takings", "beyond", "rent"}) {
                    probe.add(new Call(name, shop, 0, known));
                    probe.add(new Call(name, shop, 1, known));
                }
            }
            probe.add(new Call("charge", shop, 0, 999));
            probe.add(new Call("charge", shop, 1, 1000));
            probe.add(new Call("without", shop));
            for (int kind = 1; kind < 4; kind++) probe.add(new Call("isOf", shop, kind));
        }
        for (int month = 0; month < 4; month++) probe.add(new Call("rents", month, month));
        return probe;
    }

    private static List<Call> lines() {
        List<Call> probe = new ArrayList<>();
        for (int line = 0; line < 100; line++) {
            probe.add(new Call("line", line, 4));
            probe.add(new Call("line", line, line % 4));
        }
        return probe;
    }

    private static List<Call> counts() {
        List<Call> probe = new ArrayList<>();
        for (int what = 0; what <= 9; what++) probe.add(new Call("count", what));
        for (int i = 0; i <= 12; i++) probe.add(new Call("fallen", i));
        probe.add(new Call("broken"));
        return probe;
    }

    /** What can only be asked by calls that change it. */
    private static List<Call> rest() {
        List<Call> probe = new ArrayList<>();
        probe.add(new Call("mix", 50000));
        for (int place = 0; place < 12; place++) probe.add(new Call("mixed", 50000, place));
        probe.add(new Call("check"));
        probe.add(new Call("lease", 0));
        probe.add(new Call("rent", 0, 0, 0));
        for (int sheet = 0; sheet < 2; sheet++) {
            for (int place = 0; place <= 16; place++) probe.add(new Call("mark", sheet, place, 1));
        }
        for (int place = 0; place < 12; place++) probe.add(new Call("feet", place, 10));
        for (int door = 0; door < 4; door++) probe.add(new Call("people", door, 0));
        probe.add(new Call("rule", 0, 0));
        probe.add(new Call("rule", 1, 100));
        probe.add(new Call("fall"));
        probe.add(new Call("door", 0, 0));
        probe.add(new Call("shop", 0, 0, 0, 1, 1));
        probe.add(new Call("take", 0, 0, 0));
        probe.add(new Call("move", 4, 7));
        probe.add(new Call("months", 1));
        return probe;
    }

    private static List<Call> backAgain() {
        List<Call> probe = new ArrayList<>();
        probe.add(new Call("back"));
        probe.addAll(counts());
        probe.addAll(rest());
        return probe;
    }

    // ---- refusals

    private static void refused(int promise, Script state, int want, String name, int... args) {
        refusedAs(state, promise, state, want, name, args);
    }

    /** Refused with this state; all others answer as they would with the one told first. */
    private static void refusedAs(Script as, int promise, Script state, int want, String name, int... args) {
        promises.add(promise);
        refusals++;
        Call call = new Call(name, args);
        for (List<Call> probe : PROBES) {
            if (state.calls.size() + 1 + probe.size() > LAST_CALL) say(state.what + ": too many calls");
            ArcadeRents x = state.made();
            int got = call.on(x);
            if (got != want) {
                say("promise " + promise + ", " + state.what + ": " + call + " answers " + got + ", due is " + want);
                return;
            }
            List<Integer> due = as.due(probe), answers = ask(x, probe);
            asked += due.size();
            for (int i = 0; i < due.size(); i++) {
                if (!due.get(i).equals(answers.get(i))) {
                    say("promise " + promise + ", " + state.what + ": after " + call + " " + probe.get(i) + " answers "
                            + answers.get(i) + ", due is " + due.get(i));
                }
            }
        }
    }

    /** What is refused in every state. */
    private static void everywhere(Script s) {
        refused(2, s, BAD, "feet", 12, 50);
        refused(2, s, BAD, "feet", -1, 50);
        refused(2, s, BAD, "feet", 0, 9);
        refused(2, s, BAD, "feet", 11, 1000);
        refused(3, s, BAD, "lay", 2);
        refused(4, s, BAD, "door", 12, 5);
        refused(4, s, BAD, "door", 0, 10000);
        refused(5, s, BAD, "people", 4, 5);
        refused(5, s, BAD, "people", 0, -1);
        refused(6, s, BAD, "shop", 4, 0, 0, 1, 1);
        refused(6, s, BAD, "shop", 0, 8, 0, 1, 1);
        refused(6, s, BAD, "shop", 0, 0, 100000, 1, 1);
        refused(6, s, BAD, "shop", 0, 0, 0, 100, 1);
        refused(6, s, BAD, "shop", 0, 0, 0, 1, 1000);
        refused(7, s, BAD, "isOf", 12, 0);
        refused(7, s, BAD, "isOf", 0, 4);
        refused(8, s, BAD, "move", 12, 0);
        refused(8, s, BAD, "move", 0, 12);
        refused(9, s, BAD, "months", 0);
        refused(9, s, BAD, "months", 25);
        refused(10, s, BAD, "rule", 0, 101);
        refused(10, s, BAD, "rule", 1, 99);
        refused(10, s, BAD, "rule", 2, 100);
        refused(11, s, BAD, "stands", 0, 121, 0);
        refused(11, s, BAD, "stands", 0, 0, 8);
        refused(12, s, BAD, "past", 12, 0);
        refused(12, s, BAD, "past", 0, 121);
        refused(13, s, BAD, "take", 12, 0, 5);
        refused(13, s, BAD, "take", 0, 121, 5);
        refused(13, s, BAD, "take", 0, 0, 100000);
        refused(14, s, BAD, "withdraw", 100);
        refused(14, s, BAD, "withdraw", -1);
        refused(15, s, BAD, "line", 0, 5);
        refused(16, s, BAD, "takings", 0, 0, 121);
        refused(17, s, BAD, "beyond", 0, 121, 0);
        refused(19, s, BAD, "trim", 133);
        refused(19, s, BAD, "trim", -1);
        refused(21, s, BAD, "rent", 12, 0, 0);
        refused(22, s, BAD, "rents", 0, 121);
        refused(23, s, BAD, "charge", 0, 0, 1000000);
        refused(25, s, BAD, "fallen", -1);
        refused(26, s, BAD, "without", 12);
        refused(28, s, BAD, "mix", 50001);
        refused(28, s, BAD, "mix", 0);
        refused(29, s, BAD, "mixed", 50000, 12);
        refused(34, s, BAD, "sheet", 0, 17);
        refused(34, s, BAD, "sheet", 2, 1);
        refused(34, s, SIZE, "sheet", 0, -1);
        refused(34, s, SIZE, "sheet", 1, MIN);
        refused(35, s, BAD, "mark", 2, 0, 5);
        refused(36, s, BAD, "copy", 0, 0, 2, 0, 1);
        refused(37, s, BAD, "count", 10);
        // the tape is used up whatever lease answers
        refusedAs(s.and("without a tape", new Call("trim", 0)), 20, s, BAD, "lease", 12);
        refusedAs(s.and("without a tape", new Call("trim", 0)), 20, s, BAD, "lease", -1);
    }

    private static void empties(Script s) {
        refused(3, s, NOTHING, "lay", 0);
        refused(3, s, NOTHING, "lay", 1);
        refused(5, s, BAD, "people", 0, 5);
        refused(8, s, BAD, "move", 0, 0);
        refused(13, s, BAD, "take", 0, 0, 5);
        refused(14, s, BAD, "withdraw", 0);
        refused(19, s, BAD, "trim", 1);
        refused(33, s, NO, "back");
        refused(35, s, NOTHING, "mark", 0, 0, 5);
        refused(36, s, NOTHING, "copy", 0, 0, 1, 0, 1);
    }

    private static void busies(Script s) {
        refused(3, s, NOTHING, "lay", 1);
        refused(8, s, NO, "move", 0, 5);
        refused(8, s, NO, "move", 4, 5);
        refused(8, s, NO, "move", 4, NONE);
        refused(11, s, NO, "stands", 4, 0, 1);
        refused(14, s, NO, "withdraw", 1);
        refused(17, s, NO, "beyond", 4, 0, 0);
        refused(26, s, NO, "without", 4);
        refused(28, s, SPENT, "mix", 1);
        refused(29, s, SPENT, "mixed", 1, 0);
        refused(35, s, NOTHING, "mark", 1, 0, 5);
        refused(35, s, INDEX, "mark", 0, 13, 5);
        refused(36, s, NOTHING, "copy", 0, 0, 1, 0, 1);
        refused(36, s, INDEX, "copy", 0, 0, 0, 1, 13);
        refused(36, s, INDEX, "copy", 0, 0, 0, 1, -1);
        // a fault: the lease stays
        Script faulty = s.and("with a fault", new Call("trim", 21));
        refusedAs(s.and("without a tape", new Call("trim", 0)), 20, faulty, -121, "lease", 0);
    }

    private static void crowdeds(Script s) {
        refused(4, s, FULL, "door", 0, 0);
        refused(6, s, FULL, "shop", 0, 0, 0, 1, 1);
        refused(8, s, NO, "move", 0, 11);
        refused(9, s, BAD, "months", 1);
        refused(18, s, FULL, "feed", -1, -1, -1);
        refused(30, s, FULL, "tell", 0);
        refused(33, s, NO, "back");
        refused(35, s, INDEX, "mark", 0, 0, 5);
        refused(35, s, INDEX, "mark", 1, 16, 5);
        refused(36, s, INDEX, "copy", 1, 0, 0, 0, 1);
    }

    private static void moveds(Script s) {
        refused(8, s, FULL, "move", 4, 5);
        refused(8, s, FULL, "move", 1, NONE);
        refused(8, s, NO, "move", 4, 1);
        refused(24, s, FULL, "fall");
    }

    private static void lineds(Script s) {
        refused(13, s, FULL, "take", 0, 0, 5);
        refused(14, s, NO, "withdraw", 99);
        refused(14, s, NO, "withdraw", 7);
        refused(17, s, NO, "beyond", 1, 0, 0);
    }

    private static void spents(Script s) {
        refused(28, s, SPENT, "mix", 50000);
        refused(29, s, SPENT, "mixed", 50000, 0);
        // the numbers that wait are used up
        refusedAs(spent(false), 31, s, SPENT, "check");
    }

    // ---- anything

    private static void anyArguments(Script state) {
        int[] any = {MIN, MIN + 1, NONE, BAD, -65536, -101, -100, -1, 0, 1, 2, 3, 7, 8, 11, 12, 16, 17, 23, 24, 99, 100,
            120, 132, 999, 1000, 32767, 32768, 50000, 65536, 99999, 999999, MAX - 1, MAX};
        Random r = new Random(7);
        for (Method m : METHODS.values()) {
            ArcadeRents x = state.made();
            for (int i = 0; i < LAST_CALL - state.calls.size() && i < 60; i++) {
                int[] args = new int[m.getParameterCount()];
                for (int a = 0; a < args.length; a++) args[a] = any[r.nextInt(any.length)];
                new Call(m.getName(), args).on(x);
                asked++;
            }
        }
    }
}
