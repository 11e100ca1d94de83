import java.io.IOException;
import java.lang.management.ManagementFactory;
import java.lang.reflect.Constructor;
import java.lang.reflect.Field;
import java.lang.reflect.Method;
import java.lang.reflect.Modifier;
import java.nio.file.Files;
import java.nio.file.Path;
import java.util.Arrays;
import java.util.List;
import java.util.Set;
import java.util.TreeSet;
import java.util.regex.Matcher;
import java.util.regex.Pattern;

/** The face, and the rules of LANGUAGE.md that can be read off the class and its source. */
public final class LanguageTest {
    private static int wrong = 0;

    private static void say(boolean good, String what) {
        if (!good) {
            wrong++;
            System.out.println(what);
        }
    }

    public static void main(String[] args) throws IOException {
        face();
        classesInside();
        source();
        room();
        System.out.println(wrong == 0 ? "the language's rules are kept" : wrong + " rules are not kept");
        if (wrong != 0) System.exit(1);
    }

    private static void face() {
        Class<?> c = ArcadeRents.class;
        say(Modifier.isPublic(c.getModifiers()) && Modifier.isFinal(c.getModifiers()), "the class is public and final");
        Constructor<?>[] made = c.getDeclaredConstructors();
        say(made.length == 1 && Modifier.isPublic(made[0].getModifiers()) && made[0].getParameterCount() == 0,
            "one public constructor without parameters");
        Set<String> open = new TreeSet<>();
        for (Method m : c.getDeclaredMethods()) {
            if (Modifier.isPrivate(m.getModifiers())) continue;
            boolean ints = m.getReturnType() == int.class
                && Arrays.stream(m.getParameterTypes()).allMatch(p -> p == int.class);
            say(ints && Modifier.isPublic(m.getModifiers()) && !Modifier.isStatic(m.getModifiers()), "the head of " + m);
            open.add(m.getName() + m.getParameterCount());
        }
        say(open.equals(new TreeSet<>(List.of("feet2", "lay1", "door2", "people2", "shop5", "isOf2", "move2", "months1",
            "rule2", "stands3", "past2", "take3", "withdraw1", "line2", "takings3", "beyond3", "feed3", "trim1",
            "lease1", "rent3", "rents2", "charge3", "fall0", "fallen1", "without1", "broken0", "mix1", "mixed2",
            "tell1", "check0", "keep0", "back0", "sheet2", "mark3", "copy5", "count1"))), "the methods are " + open);
        Set<String> constants = new TreeSet<>();
        for (Field f : c.getDeclaredFields()) {
            if (!Modifier.isPrivate(f.getModifiers())) constants.add(f.getName());
        }
        say(constants.equals(new TreeSet<>(List.of("BAD", "NO", "FULL", "SPENT", "NONE", "NOTHING", "INDEX", "SIZE"))),
            "the constants are " + constants);
        int[] values = {ArcadeRents.BAD, ArcadeRents.NO, ArcadeRents.FULL, ArcadeRents.SPENT, ArcadeRents.NONE,
            ArcadeRents.NOTHING, ArcadeRents.INDEX, ArcadeRents.SIZE};
        say(Arrays.equals(values, new int[] {-1000000001, -1000000002, -1000000003, -1000000004, -1000000005,
            -1000000011, -1000000013, -1000000014}), "the constants' values");
    }

    private static void classesInside() {
        Set<String> open = new TreeSet<>();
        for (Method m : ArcadeRents.class.getMethods()) open.add(m.getName());
        Class<?>[] inside = ArcadeRents.class.getDeclaredClasses();
        say(inside.length <= 11, "twelve classes at most");
        members(ArcadeRents.class, open);
        for (Class<?> c : inside) {
            say(Modifier.isStatic(c.getModifiers()), c + " is static");
            say(!Modifier.isPublic(c.getModifiers()) && !Modifier.isProtected(c.getModifiers()), c + " is not open");
            members(c, open);
        }
    }

    private static void members(Class<?> c, Set<String> open) {
        int fields = 0;
        for (Field f : c.getDeclaredFields()) {
            boolean fixed = Modifier.isStatic(f.getModifiers());
            if (fixed) say(Modifier.isFinal(f.getModifiers()), f + " is final");
            else fields++;
        }
        say(fields <= 20, c + " has " + fields + " fields");
        for (Method m : c.getDeclaredMethods()) {
            say(m.getParameterCount() <= 7, m + " has seven parameters at most");
            boolean itsOwn = c == ArcadeRents.class && Modifier.isPublic(m.getModifiers());
            say(itsOwn || !open.contains(m.getName()), m + " bears the name of a public one");
        }
    }

    private static void source() throws IOException {
        String text = Files.readString(Path.of("src/main/java/ArcadeRents.java"));
        say(text.chars().allMatch(ch -> ch == '\n' || ch >= 32 && ch < 127), "the source holds signs 32 to 126 alone");
        String code = text.replaceAll("(?s)/\\*.*?\\*/", "").replaceAll("//[^\n]*", "").replaceAll("\"[^\"\n]*\"", "\"\"");
        String[] none = {"throw", "throws", "try", "catch", "synchronized", "assert", "double", "float", "Object",
            "System\\.(?!arraycopy)\\w+", "->", "::", "@\\w+", "var", "native", "volatile", "\\w+Exact", "static \\{",
            "hashCode", "toString", "new Thread", "while \\(true\\)", "for \\(;;\\)", "package"};
        for (String n : none) {
            Matcher m = Pattern.compile("(?<!\\w)" + n + "(?!\\w)").matcher(code);
            say(!m.find(), "the source has " + n);
        }
        Matcher imports = Pattern.compile("import ([\\w.]+);").matcher(code);
        while (imports.find()) say(imports.group(1).equals("java.util.Arrays"), "imports " + imports.group(1));
        lengths(text);
    }

    private static void lengths(String text) {
        int begun = -1, at = 0;
        for (String line : text.split("\n")) {
            at++;
            if (line.matches(" {4}( {4})?[^ ].*\\) \\{")) begun = at;
            if (line.matches(" {4}( {4})?\\}")) {
                if (begun > 0) say(at - begun < 60, "the method at line " + begun + " has sixty lines or more");
                begun = -1;
            }
        }
    }

    /** What the dearest calls make, 512 times, is next to nothing beside what the room has. */
    private static void room() {
        var threads = (com.sun.management.ThreadMXBean) ManagementFactory.getThreadMXBean();
        long id = Thread.currentThread().getId();
        dearest(new ArcadeRents());
        long before = threads.getThreadAllocatedBytes(id);
        ArcadeRents x = new ArcadeRents();
        long made = threads.getThreadAllocatedBytes(id) - before;
        say(made < 100_000, "a new object takes " + made + " bytes");
        before = threads.getThreadAllocatedBytes(id);
        dearest(x);
        long used = threads.getThreadAllocatedBytes(id) - before;
        say(used < 10_000, "a run of 512 calls takes " + used + " bytes");
    }

    private static void dearest(ArcadeRents x) {
        for (int i = 0; i < 12; i++) x.shop(i % 4, i % 8, 9999, 205, 100);
        for (int i = 0; i < 4; i++) x.door(i, 999);
        for (int i = 0; i < 8; i++) x.move(i, i);
        for (int i = 0; i < 60; i++) {
            x.mix(50000);
            x.mixed(50000, 11);
            x.check();
            x.fall();
            x.rents(0, 0);
            x.feed(0x62617365, 0x20312074, 0x75726e20);
            x.feed(0x31206c65, 0x61766520, 0x30202020);
            x.lease(i % 12);
        }
    }
}
