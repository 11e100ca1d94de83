import java.io.IOException;
import java.nio.file.Files;
import java.nio.file.Path;
import java.util.TreeSet;

/**
 * What the tests of edges share. Each of them is about one sentence, which stands word for word
 * in the document (in its terms, or with the promise whose number is told), and has a new object.
 */
abstract class Bench {
    static final int BAD = -1000000001, NO = -1000000002, FULL = -1000000003, SPENT = -1000000004,
            NONE = -1000000005, NOTHING = -1000000011, INDEX = -1000000013, SIZE = -1000000014;
    static final int MIN = Integer.MIN_VALUE, MAX = Integer.MAX_VALUE;
    static final int MOST_TRIES = 50000;
    private static final int LAST_CALL = 512;
    static final String LEAVES = "base 0 turn 0 leave 1", STAYS = "base 0 turn 0 leave 0";

    static ArcadeRents x;

    private static final Path DOCUMENT = Path.of("../shared/DOC.md");
    private static final TreeSet<Integer> promises = new TreeSet<>();
    private static String document = "";
    private static String sentence = "";
    private static int promise = 0, sentences = 0, asked = 0, askedHere = 1, answers = 0, wrong = 0;

    static void about(int number, String words) {
        leave();
        promise = number;
        sentence = words;
        sentences++;
        promises.add(number);
        if (!stands(number, words)) say("the document does not say this");
        fresh();
    }

    /** One more new object for the same sentence. */
    static void fresh() {
        x = new ArcadeRents();
        answers = 0;
    }

    static void due(int want, int got) {
        asked++;
        askedHere++;
        answers++;
        if (answers == LAST_CALL + 1) say("what an object answers behind its last call is free");
        if (got != want) say(got + ", due is " + want);
    }

    /** The last call of each of these tests: every promise of the group has a sentence, but one told of elsewhere. */
    static void end(int first, int last, int elsewhere) {
        leave();
        sentence = "the end";
        for (promise = first; promise <= last; promise++) {
            if (promise != elsewhere && !promises.contains(promise)) say("no sentence is about it");
        }
        System.out.println(wrong == 0 ? sentences + " sentences, " + asked + " answers are as due"
                : wrong + " of " + asked + " answers are not as due");
        if (wrong != 0) System.exit(1);
    }

    private static void leave() {
        if (askedHere == 0) say("nothing was asked");
        askedHere = 0;
    }

    private static void say(String what) {
        wrong++;
        int line = 0;
        for (StackTraceElement at : new Throwable().getStackTrace()) {
            if (!at.getClassName().equals("Bench")) {
                line = at.getLineNumber();
                break;
            }
        }
        System.out.println("promise " + promise + ", line " + line + " (" + sentence + "): " + what);
    }

    /** Where the document is not at hand, its words are not looked up. */
    private static boolean stands(int number, String words) {
        try {
            if (document.isEmpty() && Files.exists(DOCUMENT)) {
                document = Files.readString(DOCUMENT).replaceAll("\\s+", " ");
            }
        } catch (IOException e) {
            return false;
        }
        if (document.isEmpty()) return true;
        String terms = document.substring(0, document.indexOf("## Promise 1:"));
        int at = document.indexOf("## Promise " + number + ":");
        int to = document.indexOf("## ", at + 3);
        return terms.contains(words) || at >= 0 && document.substring(at, to).contains(words);
    }

    /** More shops, all of them plain: sort 0, pull 1, lure 0, near 0, spend 1, ask 100. */
    static void shops(int many) {
        for (int i = 0; i < many; i++) x.shop(0, 0, 1000, 1, 100);
    }

    /** One more plain shop in each of the places. */
    static void shopsIn(int... places) {
        for (int place : places) x.move(x.shop(0, 0, 1000, 1, 100), place);
    }

    /** So many moves of a shop that is out: to place 11, out, and so on. */
    static void moves(int shop, int many) {
        for (int i = 0; i < many; i++) due(i % 2 == 0 ? NONE : 11, x.move(shop, i % 2 == 0 ? 11 : NONE));
    }

    static void months(int many) {
        for (int left = many; left > 0; left -= 24) x.months(Math.min(24, left));
    }

    /** The tape has this text then, and nothing else. */
    static void write(String text) {
        due(0, x.trim(0));
        for (int at = 0; at < text.length(); at += 12) {
            due(at + 12, x.feed(four(text, at), four(text, at + 4), four(text, at + 8)));
        }
        due(text.length(), x.trim(text.length()));
    }

    static int four(String text, int at) {
        int v = 0;
        for (int i = at; i < at + 4; i++) v = v << 8 | (i < text.length() ? text.charAt(i) : ' ');
        return v;
    }

    static void leased(int shop, String text, int want) {
        write(text);
        due(want, x.lease(shop));
        due(0, x.count(8));
    }

    static void fault(String text, int place) {
        leased(0, text, -100 - place);
    }

    /** What an E gives for shop 0, which is in: told by the base of its rent, so 0 .. 99999 alone. */
    static void gives(String e, int want) {
        write("base " + e + " turn 0 leave 0");
        if (x.lease(0) < 0) due(0, -1);
        due(want, x.rent(0, x.count(9), x.count(9)));
    }
}
