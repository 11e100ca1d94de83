/** Each promise of the document by its number: ordinary inputs, edges, wrong inputs. */
public final class PromisesTest {
    private static final int BAD = -1000000001, NO = -1000000002, FULL = -1000000003, SPENT = -1000000004,
            NONE = -1000000005, NOTHING = -1000000011, INDEX = -1000000013, SIZE = -1000000014;
    private static final int MIN = Integer.MIN_VALUE, MAX = Integer.MAX_VALUE;

    private static int asked = 0, wrong = 0, promise = 0;
    private static ArcadeRents x;

    private static void fresh(int number) {
        promise = number;
        x = new ArcadeRents();
    }

    private static void due(int want, int got) {
        asked++;
        if (got != want) {
            wrong++;
            StackTraceElement at = new Throwable().getStackTrace()[1];
            if (!at.getMethodName().startsWith("p")) at = new Throwable().getStackTrace()[2];
            System.out.println("promise " + promise + ", line " + at.getLineNumber() + ": " + got + ", due is " + want);
        }
    }

    /** Puts a text on the tape that is empty. */
    private static void write(String text) {
        for (int at = 0; at < text.length(); at += 12) {
            due(at + 12, x.feed(four(text, at), four(text, at + 4), four(text, at + 8)));
        }
        due(text.length(), x.trim(text.length()));
    }

    private static int four(String text, int at) {
        int v = 0;
        for (int i = at; i < at + 4; i++) v = v << 8 | (i < text.length() ? text.charAt(i) : ' ');
        return v;
    }

    private static void leased(int shop, String text, int want) {
        write(text);
        due(want, x.lease(shop));
        due(0, x.count(8));
    }

    private static void fault(String text, int place) {
        leased(0, text, -100 - place);
    }

    /** What an E gives, told by the base of shop 0, which is in (0 .. 99999 alone). */
    private static void gives(String e, int want) {
        write("base " + e + " turn 0 leave 0");
        if (x.lease(0) < 0) due(0, -1);
        due(want, x.rent(0, x.count(9), x.count(9)));
    }

    private static void moves(int many) {
        for (int i = 0; i < many; i++) due(i % 2 == 0 ? NONE : 11, x.move(0, i % 2 == 0 ? 11 : NONE));
    }

    public static void main(String[] args) {
        p1(); p2(); p3(); p4(); p5(); p6(); p7(); p8(); p9(); p10();
        p11(); p12(); p13(); p14(); p15(); p16(); p17(); p18(); p19();
        p20texts(); p20faults(); p20depth(); p20values(); p20names();
        p21(); p22(); p23(); p24(); p25(); p26(); p27(); p28(); p28ties(); p29(); p30(); p31();
        p32(); p33(); p34(); p35(); p36(); p37();
        System.out.println(wrong == 0 ? asked + " answers are as due" : wrong + " of " + asked + " answers are not as due");
        if (wrong != 0) System.exit(1);
    }

    private static void p1() {
        fresh(1);
        for (int what = 0; what <= 9; what++) due(0, x.count(what));
        due(BAD, x.people(0, 1));
        due(BAD, x.isOf(0, 0));
        due(BAD, x.line(0, 0));
        due(NONE, x.fallen(0));
        due(NO, x.back());
        due(NOTHING, x.lay(0));
        due(NOTHING, x.lay(1));
        for (int place = 0; place < 12; place++) due(100, x.feet(place, 10));
        due(50, x.rule(0, 50));
        due(200, x.rule(1, 200));
    }

    private static void p2() {
        fresh(2);
        due(100, x.feet(0, 10));
        due(10, x.feet(0, 999));
        due(BAD, x.feet(0, 9));
        due(BAD, x.feet(0, 1000));
        due(BAD, x.feet(-1, 100));
        due(BAD, x.feet(12, 100));
        due(BAD, x.feet(MIN, MAX));
        due(999, x.feet(0, 999));
        due(100, x.feet(11, 999));
    }

    private static void p3() {
        fresh(3);
        due(BAD, x.lay(-1));
        due(BAD, x.lay(2));
        due(NOTHING, x.lay(1));
        due(0, x.sheet(1, 0));
        due(0, x.lay(1));
        due(16, x.sheet(1, 16));
        for (int i = 0; i < 16; i++) due(0, x.mark(1, i, 200 + i));
        due(212, x.mark(1, 12, 1));
        due(200, x.mark(1, 0, 9));
        due(201, x.mark(1, 1, 1000));
        due(202, x.mark(1, 2, 10));
        due(203, x.mark(1, 3, 999));
        due(204, x.mark(1, 4, -1));
        due(205, x.mark(1, 5, 65536 + 300));
        due(9, x.lay(1));
        int[] now = {100, 100, 10, 999, 100, 300, 206, 207, 208, 209, 210, 211};
        for (int i = 0; i < 12; i++) due(now[i], x.feet(i, 100));
        due(2, x.sheet(0, 2));
        due(0, x.mark(0, 1, 77));
        due(1, x.lay(0));
        due(100, x.feet(0, 100));
        due(77, x.feet(1, 100));
        due(0, x.mark(0, 0, 55));
        due(2, x.lay(0));
        due(55, x.feet(0, 100));
        due(77, x.feet(1, 100));
        due(100, x.feet(2, 100));
    }

    private static void p4() {
        fresh(4);
        due(BAD, x.door(-1, 0));
        due(BAD, x.door(12, 0));
        due(BAD, x.door(0, -1));
        due(BAD, x.door(0, 10000));
        due(0, x.door(0, 0));
        due(1, x.door(11, 9999));
        due(2, x.door(11, 5));
        due(3, x.door(5, 5));
        due(BAD, x.door(12, 5));
        due(BAD, x.door(0, 10000));
        due(FULL, x.door(0, 5));
        due(4, x.count(0));
        due(9999, x.people(1, 3));
    }

    private static void p5() {
        fresh(5);
        due(BAD, x.people(0, 5));
        due(0, x.door(3, 7));
        due(7, x.people(0, 0));
        due(0, x.people(0, 9999));
        due(BAD, x.people(0, 10000));
        due(BAD, x.people(0, -1));
        due(BAD, x.people(1, 5));
        due(BAD, x.people(-1, 5));
        due(9999, x.people(0, 1));
        x.shop(0, 0, 1000, 1, 1);
        x.move(0, 5);
        due(1, x.stands(0, 0, 1));
        due(1, x.people(0, 40));
        due(40, x.stands(0, 0, 1));
    }

    private static void p6() {
        fresh(6);
        due(BAD, x.shop(-1, 0, 0, 1, 1));
        due(BAD, x.shop(4, 0, 0, 1, 1));
        due(BAD, x.shop(0, -1, 0, 1, 1));
        due(BAD, x.shop(0, 8, 0, 1, 1));
        due(BAD, x.shop(0, 0, -1, 1, 1));
        due(BAD, x.shop(0, 0, 100000, 1, 1));
        due(BAD, x.shop(0, 0, 0, 0, 1));
        due(BAD, x.shop(0, 0, 0, -99, 1));
        due(BAD, x.shop(0, 0, 0, 1100, 1));
        due(BAD, x.shop(0, 0, 0, 300, 1));
        due(BAD, x.shop(0, 0, 0, 1200, 1));
        due(BAD, x.shop(0, 0, 0, 1201, 1));
        due(BAD, x.shop(0, 0, 0, 1, 0));
        due(BAD, x.shop(0, 0, 0, 1, 1000));
        due(BAD, x.shop(MIN, MAX, MIN, MAX, MIN));
        due(0, x.count(1));
        due(0, x.shop(0, 0, 0, 1, 1));
        due(1, x.shop(3, 7, 99999, 1199, 999));
        due(2, x.shop(2, 7, 99999, 1101, 999));
        for (int i = 3; i < 12; i++) due(i, x.shop(1, 1, 5, 5, 5));
        due(BAD, x.shop(0, 0, 0, 0, 1));
        due(FULL, x.shop(0, 0, 0, 1, 1));
        due(12, x.count(1));
        // pull 99, lure 999, near 11, spend 99
        x.door(0, 1000);
        due(NONE, x.stands(1, 0, 0));
        x.move(1, 0);
        due(99 * 1000, x.stands(1, 0, 3));
        x.move(2, 11);
        due(1, x.stands(1, 0, 7));
        due((500 + 500 * 999 / 1000) * 99, x.stands(1, 0, 3));
    }

    private static void p7() {
        fresh(7);
        int[][] is = {{1, 0, 0, 0}, {1, 1, 0, 0}, {1, 0, 1, 0}, {1, 0, 1, 1}};
        for (int kind = 0; kind < 4; kind++) x.shop(kind, 0, 0, 1, 1);
        for (int shop = 0; shop < 4; shop++) {
            for (int kind = 0; kind < 4; kind++) due(is[shop][kind], x.isOf(shop, kind));
        }
        due(BAD, x.isOf(4, 0));
        due(BAD, x.isOf(-1, 0));
        due(BAD, x.isOf(0, 4));
        due(BAD, x.isOf(0, -1));
    }

    private static void p8() {
        fresh(8);
        due(BAD, x.move(0, 0));
        x.shop(0, 0, 0, 1, 1);
        x.shop(0, 0, 0, 1, 1);
        due(BAD, x.move(0, 12));
        due(BAD, x.move(0, -1));
        due(BAD, x.move(2, NONE));
        due(BAD, x.move(-1, NONE));
        due(BAD, x.move(0, NO));
        due(NO, x.move(0, NONE));
        due(NONE, x.move(0, 11));
        due(NO, x.move(0, 11));
        due(NO, x.move(1, 11));
        due(11, x.move(0, 0));
        due(NONE, x.move(1, 11));
        due(NO, x.move(1, 0));
        due(0, x.move(0, NONE));
        due(NO, x.move(0, NONE));
        due(11, x.move(1, 0));
        due(5, x.count(6));
        // of several moves in a month the last counts, and later months stand so
        x.months(2);
        due(0, x.move(1, 4));
        due(4, x.move(1, 5));
        x.months(2);
        due(0, x.stands(1, 0, 0));
        due(0, x.stands(1, 1, 0));
        due(5, x.stands(1, 2, 0));
        due(5, x.stands(1, 4, 0));
        due(NONE, x.stands(0, 0, 0));

        fresh(8);
        x.shop(0, 0, 0, 1, 1);
        x.shop(0, 0, 0, 1, 1);
        moves(200);
        due(200, x.count(6));
        due(BAD, x.move(0, 12));
        due(NO, x.move(0, NONE));
        due(FULL, x.move(0, 3));
        due(NONE, x.stands(0, 0, 0));
        due(200, x.count(6));
    }

    private static void p9() {
        fresh(9);
        due(BAD, x.months(0));
        due(BAD, x.months(-1));
        due(BAD, x.months(25));
        due(BAD, x.months(MAX));
        due(BAD, x.months(MIN));
        due(1, x.months(1));
        due(25, x.months(24));
        due(49, x.months(24));
        due(73, x.months(24));
        due(97, x.months(24));
        due(BAD, x.months(24));
        due(120, x.months(23));
        due(BAD, x.months(1));
        due(120, x.count(9));
    }

    private static void p10() {
        fresh(10);
        due(50, x.rule(0, 0));
        due(0, x.rule(0, 100));
        due(BAD, x.rule(0, 101));
        due(BAD, x.rule(0, -1));
        due(100, x.rule(0, 3));
        due(200, x.rule(1, 100));
        due(100, x.rule(1, 999));
        due(BAD, x.rule(1, 1000));
        due(BAD, x.rule(1, 99));
        due(999, x.rule(1, 200));
        due(BAD, x.rule(2, 100));
        due(BAD, x.rule(-1, 100));
        due(3, x.rule(0, 3));
    }

    private static void p11() {
        fresh(11);
        x.door(3, 1000);
        x.door(8, 99);
        x.shop(1, 0, 30500, 310, 300);
        x.shop(1, 0, 10100, 205, 100);
        x.shop(3, 0, 0, 199, 50);
        x.shop(0, 0, 99999, 199, 50);
        x.move(0, 3);
        x.move(1, 6);
        x.move(2, 7);
        // door 3: 750 to 3, 250 to 6; door 8: 74 to 3, 24 to 6 (1 goes nowhere)
        due(3, x.stands(0, 0, 0));
        due(824, x.stands(0, 0, 1));
        due(250, x.stands(0, 0, 2));
        due((824 + 125) * 10, x.stands(0, 0, 3));
        due(2, x.stands(0, 0, 4));
        due(1, x.stands(0, 0, 5));
        due(0, x.stands(0, 0, 6));
        due(1, x.stands(0, 0, 7));
        due(274, x.stands(1, 0, 1));
        due(74, x.stands(1, 0, 2));
        due((274 + 7) * 5, x.stands(1, 0, 3));
        due(1, x.stands(1, 0, 6));
        due(1, x.stands(1, 0, 7));
        due(0, x.stands(2, 0, 1));
        due(98, x.stands(2, 0, 2));
        due(0, x.stands(2, 0, 3));
        due(2, x.stands(2, 0, 5));
        due(1, x.stands(2, 0, 6));
        due(1, x.stands(2, 0, 7));
        // out: only its place is told
        due(NONE, x.stands(3, 0, 0));
        for (int what = 1; what < 8; what++) due(NO, x.stands(3, 0, what));
        due(BAD, x.stands(3, 0, 8));
        due(BAD, x.stands(3, 0, -1));
        due(BAD, x.stands(4, 0, 0));
        due(BAD, x.stands(-1, 0, 0));
        due(BAD, x.stands(0, 1, 0));
        due(BAD, x.stands(0, -1, 0));
        // a rival is near by the shop's own word alone
        x.move(0, 10);
        due(1, x.stands(0, 0, 7));
        due(1, x.stands(1, 0, 6));
        x.move(2, NONE);
        due(0, x.stands(0, 0, 7));
        x.move(1, 8);
        due(1, x.stands(1, 0, 7));
        x.move(1, 7);
        due(1, x.stands(0, 0, 7));
        due(0, x.stands(1, 0, 7));
        // at the ends of the row
        x.move(1, 11);
        x.move(2, 0);
        due(1, x.stands(1, 0, 6));
        due(0, x.stands(2, 0, 6));
        x.move(3, 1);
        due(1, x.stands(2, 0, 6));
        due(1, x.stands(3, 0, 6));
        // pulls of those that are in are 0: nobody goes
        x.move(0, NONE);
        x.move(1, NONE);
        x.move(3, NONE);
        due(0, x.stands(2, 0, 1));
        due(0, x.stands(2, 0, 2));
        due(0, x.stands(2, 0, 4));
    }

    private static void p12() {
        fresh(12);
        x.door(4, 100);
        x.shop(0, 0, 50000, 1, 1);
        x.shop(0, 0, 50000, 1, 1);
        due(0, x.past(4, 0));
        x.move(0, 4);
        due(0, x.past(4, 0));
        x.move(1, 1);
        int[] left = {0, 0, 50, 50, 50, 0, 0, 0, 0, 0, 0, 0};
        for (int place = 0; place < 12; place++) due(left[place], x.past(place, 0));
        x.months(1);
        x.move(1, 6);
        int[] right = {0, 0, 0, 0, 50, 50, 0, 0, 0, 0, 0, 0};
        for (int place = 0; place < 12; place++) due(right[place], x.past(place, 1));
        for (int place = 0; place < 12; place++) due(left[place], x.past(place, 0));
        due(BAD, x.past(-1, 0));
        due(BAD, x.past(12, 0));
        due(BAD, x.past(0, 2));
        due(BAD, x.past(0, -1));
    }

    private static void p13() {
        fresh(13);
        due(BAD, x.take(0, 0, 0));
        x.shop(0, 0, 0, 1, 1);
        due(BAD, x.take(0, 1, 0));
        due(BAD, x.take(0, -1, 0));
        due(BAD, x.take(1, 0, 0));
        due(BAD, x.take(0, 0, 100000));
        due(BAD, x.take(0, 0, -100000));
        due(BAD, x.take(0, 0, MIN));
        due(0, x.count(3));
        due(0, x.take(0, 0, 99999));
        due(1, x.take(0, 0, -99999));
        x.months(3);
        for (int i = 2; i < 100; i++) due(i, x.take(0, i % 4, i));
        due(BAD, x.take(0, 4, 0));
        due(FULL, x.take(0, 0, 0));
        due(100, x.count(3));
        due(99, x.line(99, 2));
    }

    private static void p14() {
        fresh(14);
        due(BAD, x.withdraw(0));
        x.shop(0, 0, 0, 1, 1);
        x.take(0, 0, 5);
        x.take(0, 0, 6);
        due(BAD, x.withdraw(2));
        due(BAD, x.withdraw(-1));
        x.months(2);
        due(1, x.withdraw(1));
        x.months(1);
        due(NO, x.withdraw(1));
        due(2, x.line(1, 4));
        due(NONE, x.line(0, 4));
        due(1, x.count(4));
        due(2, x.count(3));
    }

    private static void p15() {
        fresh(15);
        x.shop(0, 0, 0, 1, 1);
        x.shop(0, 0, 0, 1, 1);
        x.months(4);
        x.take(1, 3, -7);
        due(1, x.line(0, 0));
        due(3, x.line(0, 1));
        due(-7, x.line(0, 2));
        due(4, x.line(0, 3));
        due(NONE, x.line(0, 4));
        x.months(1);
        x.withdraw(0);
        due(4, x.line(0, 3));
        due(5, x.line(0, 4));
        due(BAD, x.line(0, 5));
        due(BAD, x.line(0, -1));
        due(BAD, x.line(1, 0));
        due(BAD, x.line(-1, 0));
    }

    private static void p16() {
        fresh(16);
        x.shop(0, 0, 0, 1, 1);
        x.shop(0, 0, 0, 1, 1);
        x.take(0, 0, 100);
        x.months(1);
        x.take(0, 0, 20);
        x.take(1, 0, 7);
        x.take(0, 1, 3);
        x.months(1);
        x.withdraw(0);
        x.take(0, 0, -30);
        x.months(1);
        x.take(0, 0, 4000);
        x.withdraw(5);
        due(100, x.takings(0, 0, 0));
        due(120, x.takings(0, 0, 1));
        due(0, x.takings(0, 0, 2));
        due(0, x.takings(0, 0, 3));
        x.take(0, 0, 15);
        due(5, x.takings(0, 0, 3));
        due(0, x.takings(1, 0, 0));
        due(7, x.takings(1, 0, 1));
        due(0, x.takings(0, 1, 0));
        due(3, x.takings(0, 1, 1));
        due(BAD, x.takings(2, 0, 0));
        due(BAD, x.takings(-1, 0, 0));
        due(BAD, x.takings(0, 4, 0));
        due(BAD, x.takings(0, -1, 0));
        due(BAD, x.takings(0, 0, 4));
        due(BAD, x.takings(0, 0, -1));
    }

    private static void p17() {
        fresh(17);
        x.door(0, 101);
        x.shop(0, 0, 1000, 3, 1);
        due(NO, x.beyond(0, 0, 0));
        x.move(0, 0);
        // foretold 303: half of it cut is 151, twice 606
        due(-1, x.beyond(0, 0, 0));
        x.take(0, 0, 150);
        due(-1, x.beyond(0, 0, 0));
        x.take(0, 0, 1);
        due(0, x.beyond(0, 0, 0));
        x.take(0, 0, 455);
        due(0, x.beyond(0, 0, 0));
        x.take(0, 0, 1);
        due(1, x.beyond(0, 0, 0));
        x.rule(1, 201);
        due(0, x.beyond(0, 0, 0));
        x.rule(1, 200);
        x.months(1);
        due(1, x.beyond(0, 0, 0));
        x.take(0, 0, -600);
        due(1, x.beyond(0, 0, 0));
        due(-1, x.beyond(0, 0, 1));
        x.rule(0, 0);
        due(0, x.beyond(0, 0, 1));
        x.move(0, NONE);
        due(NO, x.beyond(0, 1, 1));
        due(0, x.beyond(0, 0, 1));
        due(BAD, x.beyond(1, 0, 0));
        due(BAD, x.beyond(0, 2, 0));
        due(BAD, x.beyond(0, -1, 0));
        due(BAD, x.beyond(0, 0, 2));
        due(BAD, x.beyond(0, 0, -1));

        // foretold times HIGH is above the greatest int
        fresh(17);
        for (int i = 0; i < 4; i++) x.door(0, 9999);
        x.shop(0, 0, 99999, 99, 1);
        x.rule(1, 999);
        x.rule(0, 100);
        x.move(0, 5);
        due(39996 * 99, x.stands(0, 0, 3));
        for (int i = 0; i < 39; i++) x.take(0, 0, 99999);
        due(-1, x.beyond(0, 0, 0));
        for (int i = 39; i < 100; i++) x.take(0, 0, 99999);
        due(0, x.beyond(0, 0, 0));
        x.rule(1, 252);
        due(1, x.beyond(0, 0, 0));

        // nothing is foretold: takings are above it, none are not below
        fresh(17);
        x.shop(0, 0, 99999, 99, 1);
        x.move(0, 5);
        due(0, x.beyond(0, 0, 0));
        x.take(0, 0, 1);
        due(1, x.beyond(0, 0, 0));
    }

    private static void p18() {
        fresh(18);
        for (int i = 1; i <= 11; i++) due(12 * i, x.feed(i, -i, MIN));
        due(FULL, x.feed(0, 0, 0));
        due(132, x.count(8));
        due(121, x.trim(121));
        due(FULL, x.feed(0, 0, 0));
        due(120, x.trim(120));
        due(132, x.feed(0, 0, 0));

        // the highest byte first
        fresh(18);
        x.shop(0, 0, 0, 1, 1);
        x.feed(0x62617365, 0x20312074, 0x75726e20);
        x.feed(0x31206c65, 0x61766520, 0x31202020);
        due(3, x.lease(0));
    }

    private static void p19() {
        fresh(19);
        due(0, x.trim(0));
        due(BAD, x.trim(1));
        x.feed(1, 2, 3);
        due(BAD, x.trim(13));
        due(BAD, x.trim(-1));
        due(12, x.trim(12));
        due(5, x.trim(5));
        due(BAD, x.trim(6));
        due(17, x.feed(1, 2, 3));
        due(17, x.count(8));
    }

    private static void p20texts() {
        fresh(20);
        due(BAD, x.lease(0));
        x.shop(0, 0, 0, 1, 1);
        x.move(0, 3);
        due(0, x.count(5));
        leased(0, "base f*3 turn t/10 leave a=0", 6);
        due(1, x.count(5));
        due(300, x.rent(0, 0, 0));
        // a fault: the lease stays, the tape is used up
        leased(0, "base 5 turn 5 leave", -119);
        due(300, x.rent(0, 0, 0));
        due(1, x.count(5));
        // no such shop is asked first, and the tape is used up whatever the answer is
        write("base 5 turn 5 leave 5");
        due(BAD, x.lease(1));
        due(0, x.count(8));
        write("nonsense");
        due(BAD, x.lease(-1));
        due(0, x.count(8));
        due(-100, x.lease(0));
        leased(0, "base 7 turn 8 leave 9", 3);
        due(15, x.rent(0, 0, 0));
        due(1, x.count(5));
        // blanks between words and signs, and at the ends; none are needed beside signs
        leased(0, "   base(f)turn(1+1)leave!0  ", 4);
        leased(0, "base  ( f  ) turn 1  +1 leave ! 0", 4);
        leased(0, "base(((((((f)))))))turn!!!!!!!!1leave 1", -100 - 32);
        leased(0, "base 00001 turn 99999 leave t|f&a<o+v*k-n/m", 10);
        due(1 + 99999, x.rent(0, 0, 0));
        String longest = "base 1";
        while (longest.length() < 116) longest += "+1";
        longest += " turn 1 leave 10";
        due(132, longest.length());
        leased(0, longest, 58);
        due(57, x.rent(0, 0, 0));
    }

    private static void p20faults() {
        fresh(20);
        x.shop(0, 0, 0, 1, 1);
        due(-100, x.lease(0));
        fault("   ", 3);
        fault("basef turn", 0);
        fault("bas", 0);
        fault("case 1 turn 1 leave 1", 0);
        fault("bast 1 turn 1 leave 1", 0);
        fault("base 1 burn 1 leave 1", 7);
        fault("base 1 turn 1 heave 1", 14);
        fault("base z turn 1 leave 1", 5);
        fault("base zt turn 1 leave 1", 5);
        fault(" turn 1", 1);
        fault("base", 4);
        fault("base ", 5);
        fault("base1 turn 1 leave 1", 4);
        fault("base 1turn 1 leave 1", 6);
        fault("base t1 turn 1 leave 1", 6);
        fault("base 1t turn 1 leave 1", 6);
        fault("base 100000 turn 1 leave 1", 5);
        fault("base 000001 turn 1 leave 1", 5);
        fault("base b turn 1 leave 1", 5);
        fault("base tt turn 1 leave 1", 5);
        fault("base turn 1 leave 1", 5);
        fault("base T turn 1 leave 1", 5);
        fault("base t t turn 1 leave 1", 7);
        fault("base 1 1 turn 1 leave 1", 7);
        fault("base 1<2<3 turn 1 leave 1", 8);
        fault("base 1<2=(3) turn 1 leave 1", 8);
        fault("base 1=2|3>4&5<6>7 turn 1 leave 1", 16);
        fault("base (1<2)<(3<4)<1 turn 1 leave 1", 16);
        fault("base -1 turn 1 leave 1", 5);
        fault("base 1+ turn 1 leave 1", 8);
        fault("base 1! turn 1 leave 1", 6);
        fault("base (1 turn 1 leave 1", 8);
        fault("base 1) turn 1 leave 1", 6);
        fault("base () turn 1 leave 1", 6);
        fault("base 1&&1 turn 1 leave 1", 7);
        fault("base 1 leave 1 turn 1", 7);
        fault("base 1 base 1", 7);
        fault("base 1 tur", 7);
        fault("base 1 turn", 11);
        fault("base 1 turn   ", 14);
        fault("base 1 turn 1 leav", 14);
        fault("base 1 turn 1 leave (1", 22);
        fault("base 1 turn 1 leave 1 1", 22);
        fault("base 1 turn 1 leave 1 base", 22);
        fault("base 1 turn 1 leave 1)", 21);
        fault("base 1 turn 1 leave 1,", 21);
        fault("base 1 turn 1 leave 1.", 21);
        fault("base 1\tturn 1 leave 1", 6);
        fault("base 1 turn \u00e9 leave 1", 12);
        fault("base 1 turn 1 leave 1\0", 21);
        due(0, x.count(5));
        // bytes from feed that are below 0 as a sign
        x.feed(-1, -1, -1);
        due(-100, x.lease(0));
        x.feed(0, 0, 0);
        due(-100, x.lease(0));
    }

    private static void p20depth() {
        fresh(20);
        x.shop(0, 0, 0, 1, 1);
        x.move(0, 0);
        leased(0, "base ((((((((1)))))))) turn 1 leave 1", 3);
        fault("base (((((((((1))))))))) turn 1 leave 1", 13);
        leased(0, "base !!!!!!!!1 turn 1 leave 1", 3);
        fault("base !!!!!!!!!1 turn 1 leave 1", 13);
        // ( and ! are counted each for itself, and a ! stays open while its part goes on
        leased(0, "base !(!(!(!(!(!(!(!(1)))))))) turn 1 leave 1", 3);
        fault("base !(!(!(!(!(!(!(!(!1)))))))) turn 1 leave 1", 21);
        fault("base !(!(!(!(!(!(!(!((1)))))))) turn 1 leave 1", 21);
        leased(0, "base ((((((((!!!!!!!!1)))))))) turn 1 leave 1", 3);
        leased(0, "base !!!!!!!!((((((((1)))))))) turn 1 leave 1", 3);
        fault("base !!!!!!!!(1+!1) turn 1 leave 1", 16);
        // what has been closed is open no more
        leased(0, "base !1+!1+!1+!1+!1+!1+!1+!1+!1+!!!!!!!!1 turn 1 leave 1", 12);
        leased(0, "base !(!!!!!!!1)+!!!!!!!!1 turn !!!!!!!!1 leave !!!!!!!!1", 4);
        leased(0, "base (1)+(1)+(1)+(1)+(1)+(1)+(1)+(1)+(1)+((((((((1)))))))) turn 1 leave 1", 12);
        leased(0, "base ((((((((1)))))))) turn ((((((((1)))))))) leave ((((((((1))))))))", 3);
    }

    private static void p20values() {
        fresh(20);
        x.shop(0, 0, 0, 1, 1);
        x.move(0, 0);
        gives("2+3*4", 14);
        gives("(2+3)*4", 20);
        gives("20-3-4", 13);
        gives("20-(3-4)", 21);
        gives("100/7/2", 7);
        gives("100/(7/2)", 33);
        gives("100/7*2", 28);
        gives("7/0", 0);
        gives("7/(3-3)+5", 5);
        gives("10+(0-7)/2", 7);
        gives("10-7/(0-2)", 13);
        gives("0-5", 0);
        gives("99999+1", 99999);
        gives("99999", 99999);
        gives("5|0", 1);
        gives("0|0", 0);
        gives("5&2", 1);
        gives("4&0", 0);
        gives("5", 5);
        gives("(5)", 5);
        gives("!5", 0);
        gives("!0", 1);
        gives("!!5", 1);
        gives("!0+5", 6);
        gives("!0*5", 5);
        gives("!(0*5)", 1);
        gives("1<2", 1);
        gives("2<2", 0);
        gives("2=2", 1);
        gives("2=3", 0);
        gives("3>2", 1);
        gives("2>2", 0);
        gives("1+1=2", 1);
        gives("1|0&0", 1);
        gives("(1|0)&0", 0);
        gives("0&0|1", 1);
        gives("1&2>1", 1);
        gives("(2<3)+(3<4)", 2);
        // ints wrap
        gives("99999*99999", 99999 * 99999 > 0 ? 99999 : 0);
        gives("(65536*32768-1)-65535*32768", 32767);
        gives("65536*65536+7", 7);
        gives("65536*32768<0", 1);
        gives("65536*32768/(0-1)=65536*32768", 1);
        gives("(65536*32768+1)/(0-1)/32767", 65538);
    }

    private static void p20names() {
        fresh(20);
        x.door(0, 1000);
        x.shop(3, 5, 20000, 201, 1);
        x.shop(1, 5, 10000, 1, 1);
        x.shop(1, 4, 20000, 1, 1);
        x.shop(1, 4, 99000, 1, 1);
        x.move(0, 3);
        x.move(1, 5);
        x.move(2, 4);
        x.feet(3, 77);
        x.months(6);
        x.take(0, 6, 1234);
        x.take(0, 5, 4321);
        x.take(1, 6, 9);
        gives("t", 1234);
        gives("f", 77);
        gives("a", 2);
        gives("o", 2);
        gives("v", 600);
        gives("k", 3);
        gives("n", 1);
        gives("m", 6);
        gives("x", 1);
        gives("c", 400);
        x.move(1, 6);
        gives("x", 0);
        x.move(2, 9);
        gives("n", 0);
        x.move(2, 2);
        x.move(1, 4);
        gives("n", 2);
        x.move(1, NONE);
        gives("a", 1);
        gives("o", 1);
        gives("c", 500);
        gives("v", 0);
        x.move(3, 7);
        gives("a", 2);
    }

    private static void p21() {
        fresh(21);
        x.shop(0, 0, 0, 1, 1);
        x.shop(0, 0, 0, 1, 1);
        due(0, x.rent(0, 0, 0));
        leased(0, "base f+m turn t/2 leave 0", 5);
        due(0, x.rent(0, 0, 0));
        x.move(0, 4);
        x.take(0, 0, 500);
        due(350, x.rent(0, 0, 0));
        x.months(2);
        x.take(0, 0, 100);
        x.move(0, NONE);
        due(350, x.rent(0, 0, 0));
        due(350, x.rent(0, 0, 1));
        due(400, x.rent(0, 0, 2));
        due(101, x.rent(0, 1, 2));
        due(0, x.rent(0, 2, 2));
        due(0, x.rent(1, 0, 0));
        // feet and leases as they are now
        x.feet(4, 10);
        due(310, x.rent(0, 0, 2));
        leased(0, "base 0-9 turn 99999+9 leave 0", 5);
        due(99999, x.rent(0, 0, 2));
        leased(0, "base 99999*2 turn 0-9 leave 0", 5);
        due(99999, x.rent(0, 0, 2));
        leased(0, "base 99999*2 turn 99999*2 leave 0", 5);
        due(199998, x.rent(0, 0, 2));
        due(BAD, x.rent(2, 0, 0));
        due(BAD, x.rent(-1, 0, 0));
        due(BAD, x.rent(0, 3, 0));
        due(BAD, x.rent(0, -1, 0));
        due(BAD, x.rent(0, 0, 3));
        due(BAD, x.rent(0, 0, -1));
        due(BAD, x.rent(1, 3, 3));
    }

    private static void p22() {
        fresh(22);
        due(0, x.rents(0, 0));
        for (int i = 0; i < 12; i++) {
            x.shop(0, 0, 0, 1, 1);
            x.move(i, i);
            leased(i, "base 99999 turn t+" + i + " leave 0", 4);
        }
        due(12 * 99999 + 66, x.rents(0, 0));
        x.months(1);
        x.move(0, NONE);
        x.take(1, 1, 1000);
        x.take(1, 0, 50);
        due(11 * 99999 + 66 + 1000, x.rents(1, 1));
        due(12 * 99999 + 66 + 50, x.rents(0, 1));
        due(12 * 99999 + 66, x.rents(0, 0));
        due(11 * 99999 + 66, x.rents(1, 0));
        due(BAD, x.rents(2, 0));
        due(BAD, x.rents(-1, 0));
        due(BAD, x.rents(0, 2));
        due(BAD, x.rents(0, -1));
    }

    private static void p23() {
        fresh(23);
        x.shop(0, 0, 0, 1, 1);
        due(0, x.charge(0, 0, 999999));
        x.shop(1, 0, 0, 1, 1);
        x.shop(2, 0, 0, 1, 1);
        x.shop(3, 0, 0, 1, 1);
        x.move(3, 0);
        due(0, x.charge(3, 0, 100));
        x.move(0, 11);
        x.move(1, 5);
        x.move(2, 2);
        // 100 feet each: what is left over goes by places, not by numbers
        due(33, x.charge(0, 0, 100));
        due(33, x.charge(1, 0, 100));
        due(34, x.charge(2, 0, 100));
        due(33, x.charge(0, 0, 101));
        due(34, x.charge(1, 0, 101));
        due(34, x.charge(2, 0, 101));
        due(0, x.charge(3, 0, 101));
        due(0, x.charge(0, 0, 0));
        due(1, x.charge(2, 0, 1));
        due(0, x.charge(1, 0, 1));
        x.feet(0, 999);
        x.feet(11, 999);
        x.feet(5, 10);
        x.feet(2, 11);
        due(999999 * 999 / 1020, x.charge(0, 0, 999999));
        due(999999 * 10 / 1020 + 1, x.charge(1, 0, 999999));
        due(999999 * 11 / 1020 + 1, x.charge(2, 0, 999999));
        due(999999, x.charge(0, 0, 999999) + x.charge(1, 0, 999999) + x.charge(2, 0, 999999));
        x.months(1);
        x.move(2, NONE);
        due(0, x.charge(2, 1, 1));
        due(1, x.charge(1, 1, 1));
        due(1, x.charge(2, 0, 1));
        due(BAD, x.charge(0, 0, -1));
        due(BAD, x.charge(0, 0, 1000000));
        due(BAD, x.charge(4, 0, 1));
        due(BAD, x.charge(-1, 0, 1));
        due(BAD, x.charge(0, 2, 1));
        due(BAD, x.charge(0, -1, 1));
    }

    /** Four shops in a row: 3 leaves without a shop right ahead, 2 without 3, and so on. */
    private static void chain() {
        for (int i = 0; i < 4; i++) {
            x.shop(i == 3 ? 1 : 0, i, 0, 1, 1);
            x.move(i, i);
        }
        leased(3, "base 0 turn 0 leave m>0", 4);
        leased(2, "base 0 turn 0 leave a=0", 4);
        leased(0, "base 0 turn 0 leave n=0", 4);
        leased(1, "base 0 turn 0 leave n<2", 4);
    }

    private static void p24() {
        fresh(24);
        due(0, x.fall());
        chain();
        due(0, x.fall());
        due(4, x.count(6));
        x.months(1);
        due(4, x.fall());
        int[] order = {3, 2, 1, 0};
        for (int i = 0; i < 4; i++) due(order[i], x.fallen(i));
        due(8, x.count(6));
        due(0, x.count(2));
        due(NONE, x.stands(3, 1, 0));
        due(3, x.stands(3, 0, 0));
        due(0, x.fall());
        due(NONE, x.fallen(0));
        due(8, x.count(6));

        // the least by number each time, all asked anew
        fresh(24);
        for (int i = 0; i < 3; i++) {
            x.shop(0, 0, 0, 1, 1);
            x.move(i, i);
        }
        leased(0, "base 0 turn 0 leave o=1", 4);
        leased(1, "base 0 turn 0 leave o=0", 4);
        leased(2, "base 0 turn 0 leave o=2", 4);
        due(3, x.fall());
        due(2, x.fallen(0));
        due(0, x.fallen(1));
        due(1, x.fallen(2));

        // all twelve
        fresh(24);
        for (int i = 0; i < 12; i++) {
            x.shop(0, 0, 0, 1, 1);
            x.move(i, 11 - i);
            leased(i, "base 0 turn 0 leave 1", 3);
        }
        due(11, x.without(7));
        due(12, x.fall());
        for (int i = 0; i < 12; i++) due(i, x.fallen(i));
        due(NONE, x.fallen(12));
        due(24, x.count(6));

        // t of today as known today; those without a lease stay
        fresh(24);
        x.shop(0, 0, 0, 1, 1);
        x.shop(0, 0, 0, 1, 1);
        x.move(0, 0);
        x.move(1, 1);
        leased(0, "base 0 turn 0 leave t<10", 4);
        x.take(0, 0, 9);
        x.months(1);
        x.take(0, 1, 10);
        due(0, x.fall());
        x.take(0, 1, -1);
        due(1, x.fall());
        due(1, x.count(2));
        due(1, x.stands(1, 1, 0));

        // too few moves: none leaves, the latest fall stays
        fresh(24);
        for (int i = 0; i < 4; i++) x.shop(0, 0, 0, 1, 1);
        x.move(1, 1);
        leased(1, "base 0 turn 0 leave 1", 3);
        due(1, x.fall());
        x.move(1, 1);
        x.move(2, 2);
        x.move(3, 3);
        moves(193);
        due(198, x.count(6));
        leased(2, "base 0 turn 0 leave 1", 3);
        leased(3, "base 0 turn 0 leave 1", 3);
        due(FULL, x.fall());
        due(198, x.count(6));
        due(4, x.count(2));
        due(1, x.fallen(0));
        due(NONE, x.fallen(1));
        due(1, x.move(1, NONE));
        due(FULL, x.fall());
        leased(2, "base 0 turn 0 leave 0", 3);
        due(1, x.fall());
        due(200, x.count(6));
        due(3, x.fallen(0));
        due(0, x.fall());
        leased(2, "base 0 turn 0 leave 1", 3);
        due(FULL, x.fall());
        due(NONE, x.fallen(0));
        due(1, x.without(0));
    }

    private static void p25() {
        fresh(25);
        due(NONE, x.fallen(0));
        due(NONE, x.fallen(MAX));
        due(BAD, x.fallen(-1));
        due(BAD, x.fallen(MIN));
        chain();
        x.months(1);
        x.fall();
        due(3, x.fallen(0));
        due(0, x.fallen(3));
        due(NONE, x.fallen(4));
        due(NONE, x.fallen(12));
        due(NONE, x.fallen(MAX));
        due(BAD, x.fallen(-1));
        x.move(3, 3);
        due(1, x.fall());
        due(3, x.fallen(0));
        due(NONE, x.fallen(1));
    }

    private static void p26() {
        fresh(26);
        chain();
        x.shop(0, 0, 0, 1, 1);
        due(3, x.without(3));
        due(2, x.without(2));
        due(1, x.without(1));
        due(1, x.without(0));
        due(NO, x.without(4));
        due(BAD, x.without(5));
        due(BAD, x.without(-1));
        due(4, x.count(2));
        due(4, x.count(6));
        due(NONE, x.fallen(0));
        x.move(3, NONE);
        due(NO, x.without(3));
        // those that would leave anyway count too
        due(2, x.without(0));
    }

    private static void p27() {
        fresh(27);
        due(0, x.broken());
        x.shop(0, 1, 0, 201, 1);
        x.shop(1, 1, 0, 1, 1);
        x.shop(2, 1, 0, 1, 1);
        x.shop(3, 2, 0, 1101, 1);
        x.move(3, 6);
        x.move(0, 5);
        due(0, x.broken());
        x.move(1, 7);
        due(1, x.broken());
        x.move(1, 8);
        due(0, x.broken());
        x.move(1, 3);
        due(1, x.broken());
        x.move(2, 4);
        due(2, x.broken());
        x.move(0, 2);
        due(2, x.broken());
        x.move(0, 1);
        due(1, x.broken());
        x.move(0, NONE);
        due(0, x.broken());
    }

    private static void p28() {
        fresh(28);
        due(BAD, x.mix(0));
        due(BAD, x.mix(-1));
        due(BAD, x.mix(50001));
        due(0, x.mix(1));
        x.shop(0, 0, 0, 1, 150);
        // one shop: a try for each place
        due(SPENT, x.mix(11));
        due(150, x.mix(12));
        x.feet(3, 33);
        due(150, x.mix(12));
        x.shop(0, 1, 0, 1, 7);
        // two shops of two sorts: 24 with one, 132 with both
        due(SPENT, x.mix(155));
        due(157, x.mix(156));
        x.move(1, 3);
        due(SPENT, x.mix(10));
        due(150, x.mix(11));
        x.move(0, 5);
        due(0, x.mix(1));

        // each worth is cut for itself
        fresh(28);
        x.shop(0, 0, 0, 1, 1);
        x.shop(0, 1, 0, 1, 1);
        for (int i = 0; i < 12; i++) x.feet(i, 99);
        due(0, x.mix(50000));
        for (int i = 0; i < 12; i++) x.feet(i, 199);
        due(2, x.mix(50000));
        for (int i = 0; i < 12; i++) x.feet(i, 999);
        due(18, x.mix(50000));

        // rivals: by the word of the one that is put, or of the one that is in
        fresh(28);
        x.shop(0, 0, 0, 501, 100);
        x.shop(0, 0, 0, 1, 100);
        x.shop(0, 0, 0, 1, 100);
        x.move(0, 5);
        // only place 11 is more than 5 from it
        due(100, x.mix(50000));
        due(1, x.mixed(50000, 11));
        due(100, x.mix(2));
        due(SPENT, x.mix(1));
        x.move(0, 7);
        due(200, x.mix(6));
        due(1, x.mixed(6, 0));
        due(2, x.mixed(6, 1));
        due(SPENT, x.mix(5));
        x.move(0, NONE);
        x.move(1, 6);
        x.move(2, 8);
        due(100, x.mix(1));
        due(0, x.mixed(1, 0));
        x.move(2, 5);
        due(0, x.mix(1));
        // what is broken between such as are in does not count
        x.move(0, 4);
        due(2, x.broken());
        x.shop(0, 3, 0, 1, 5);
        due(5, x.mix(9));
        due(3, x.mixed(9, 11));
        due(SPENT, x.mix(8));

        // five shops of five sorts are too many tries
        fresh(28);
        for (int i = 0; i < 5; i++) x.shop(0, i, 0, 1, 100);
        due(SPENT, x.mix(50000));
        x.move(4, 0);
        due(SPENT, x.mix(12584 - 1));
        due(400, x.mix(12584));
        due(1, x.count(6));
    }

    private static void p28ties() {
        // the fewest shops of equal worth; then the first by places: nobody ahead, then by number
        fresh(28);
        x.shop(0, 0, 0, 1, 9);
        x.shop(0, 1, 0, 1, 500);
        x.shop(0, 2, 0, 1, 500);
        for (int i = 0; i < 12; i++) x.feet(i, 10);
        due(100, x.mix(50000));
        due(1, x.mixed(50000, 10));
        due(2, x.mixed(50000, 11));
        for (int i = 0; i < 10; i++) due(NONE, x.mixed(50000, i));
        x.feet(0, 11);
        due(105, x.mix(50000));
        due(1, x.mixed(50000, 0));
        due(2, x.mixed(50000, 11));

        // one with twice the worth is ahead of two with the same together
        fresh(28);
        x.shop(0, 0, 0, 1101, 100);
        x.shop(0, 0, 0, 1, 40);
        x.shop(0, 0, 0, 1, 60);
        due(100, x.mix(50000));
        due(0, x.mixed(50000, 11));
        due(NONE, x.mixed(50000, 10));
    }

    private static void p29() {
        fresh(29);
        x.shop(0, 0, 0, 1, 100);
        x.shop(0, 1, 0, 1, 100);
        x.move(1, 11);
        due(NONE, x.mixed(50000, 11));
        due(0, x.mixed(50000, 10));
        due(NONE, x.mixed(50000, 0));
        due(0, x.mixed(11, 10));
        due(SPENT, x.mixed(10, 10));
        due(SPENT, x.mixed(10, 11));
        due(BAD, x.mixed(50001, 0));
        due(BAD, x.mixed(0, 0));
        due(BAD, x.mixed(10, 12));
        due(BAD, x.mixed(10, -1));
        due(1, x.count(2));
    }

    private static void p30() {
        fresh(30);
        for (int i = 1; i <= 24; i++) due(i, x.tell(i % 2 == 0 ? MIN : MAX));
        due(FULL, x.tell(0));
        due(24, x.count(7));
        x.check();
        due(1, x.tell(0));
    }

    private static void p31() {
        fresh(31);
        due(0, x.check());
        x.tell(0);
        due(1, x.check());
        due(0, x.count(7));
        x.shop(0, 0, 0, 1, 100);
        x.shop(0, 1, 0, 1, 100);
        due(1, x.check());
        int[] right = {10, 0, 11, 1};
        for (int wrongAt = 0; wrongAt < 4; wrongAt++) {
            for (int i = 0; i < 4; i++) x.tell(i == wrongAt ? right[i] + 1 : right[i]);
            due(1 + wrongAt, x.check());
        }
        for (int many = 0; many < 4; many++) {
            for (int i = 0; i < many; i++) x.tell(right[i]);
            due(1 + many, x.check());
        }
        for (int i = 0; i < 4; i++) x.tell(right[i]);
        due(0, x.check());
        due(1, x.check());
        for (int i = 0; i < 4; i++) x.tell(right[i]);
        x.tell(0);
        due(5, x.check());
        due(0, x.count(7));
        // spent: none wait then, too
        for (int i = 2; i < 5; i++) x.shop(0, i, 0, 1, 100);
        x.tell(1);
        due(SPENT, x.check());
        due(0, x.count(7));

        // twelve rows are all 24 numbers
        fresh(31);
        for (int i = 0; i < 12; i++) x.shop(0, i % 8, 0, 1, 100);
        for (int i = 0; i < 11; i++) x.move(i, i);
        x.tell(11);
        x.tell(11);
        due(0, x.check());
    }

    private static void p32() {
        fresh(32);
        due(0, x.keep());
        x.months(5);
        due(5, x.keep());
        x.months(1);
        due(5, x.back());
    }

    private static void p33() {
        fresh(33);
        due(NO, x.back());
        chain();
        x.door(2, 20);
        x.feet(7, 70);
        x.rule(0, 7);
        x.take(0, 0, 5);
        x.months(1);
        x.take(0, 0, 6);
        x.withdraw(0);
        x.fall();
        x.tell(4);
        x.sheet(0, 3);
        x.feed(1, 2, 3);
        due(1, x.keep());
        for (int again = 0; again < 3; again++) {
            due(20, x.people(0, 30));
            x.door(3, 1);
            x.shop(0, 0, 0, 1, 1);
            due(70, x.feet(7, 71));
            due(7, x.rule(0, 8));
            due(200, x.rule(1, 300));
            x.months(3);
            x.take(1, 2, 9);
            due(1, x.withdraw(1));
            x.move(0, 9);
            due(1, x.fall());
            due(0, x.fallen(0));
            x.tell(5);
            x.sheet(1, 4);
            x.trim(12);
            x.feed(1, 2, 3);
            due(1, x.back());
            int[] counts = {1, 4, 0, 2, 1, 4, 8, 2 + again, 24, 1};
            for (int what = 0; what < 10; what++) due(counts[what], x.count(what));
            due(3, x.fallen(0));
            due(0, x.fallen(3));
            due(NONE, x.line(1, 4));
            due(1, x.line(0, 4));
            due(again == 0 ? 0 : 5, x.mark(0, 2, 5));
            due(INDEX, x.mark(0, 3, 5));
            due(0, x.mark(1, 3, 5));
        }
        // leases, too
        x.trim(0);
        x.move(0, 0);
        leased(0, "base 5 turn 0 leave 0", 3);
        x.keep();
        leased(0, "base 6 turn 0 leave 0", 3);
        leased(1, "base 6 turn 0 leave 0", 3);
        due(6, x.rent(0, 1, 1));
        x.back();
        due(5, x.rent(0, 1, 1));

        fresh(33);
        x.shop(0, 0, 0, 1, 1);
        x.keep();
        leased(0, "base 5 turn 0 leave 0", 3);
        due(1, x.count(5));
        x.back();
        due(0, x.count(5));
        due(0, x.count(2));
        due(1, x.shop(0, 0, 0, 1, 1));
    }

    private static void p34() {
        fresh(34);
        due(BAD, x.sheet(-1, 0));
        due(BAD, x.sheet(2, 0));
        due(BAD, x.sheet(0, 17));
        due(BAD, x.sheet(2, -1));
        due(SIZE, x.sheet(0, -1));
        due(SIZE, x.sheet(1, MIN));
        due(NOTHING, x.mark(0, 0, 0));
        due(0, x.sheet(0, 0));
        due(INDEX, x.mark(0, 0, 0));
        due(16, x.sheet(0, 16));
        due(0, x.mark(0, 15, 5));
        due(SIZE, x.sheet(0, -1));
        due(5, x.mark(0, 15, 6));
        due(16, x.sheet(0, 16));
        due(0, x.mark(0, 15, 5));
        due(NOTHING, x.mark(1, 0, 0));
    }

    private static void p35() {
        fresh(35);
        due(BAD, x.mark(-1, 0, 0));
        due(BAD, x.mark(2, 0, 0));
        due(NOTHING, x.mark(0, -1, 0));
        x.sheet(0, 3);
        due(INDEX, x.mark(0, 3, 0));
        due(INDEX, x.mark(0, -1, 0));
        due(INDEX, x.mark(0, MAX, 0));
        due(INDEX, x.mark(0, MIN, 0));
        due(0, x.mark(0, 2, 32768));
        due(-32768, x.mark(0, 2, -32769));
        due(32767, x.mark(0, 2, 65535));
        due(-1, x.mark(0, 2, MAX));
        due(-1, x.mark(0, 2, MIN));
        due(0, x.mark(0, 2, 7));
        due(0, x.mark(0, 1, 7));
    }

    private static void p36() {
        fresh(36);
        due(BAD, x.copy(2, 0, 0, 0, 0));
        due(BAD, x.copy(0, 0, 2, 0, 0));
        due(BAD, x.copy(-1, 0, 0, 0, 0));
        due(BAD, x.copy(0, 0, -1, 0, 0));
        due(NOTHING, x.copy(0, 0, 0, 0, 0));
        x.sheet(0, 5);
        due(NOTHING, x.copy(0, 0, 1, 0, -1));
        due(NOTHING, x.copy(1, 9, 0, 0, 0));
        x.sheet(1, 3);
        for (int i = 0; i < 5; i++) x.mark(0, i, i + 1);
        due(2, x.copy(0, 3, 1, 1, 2));
        due(0, x.mark(1, 0, 0));
        due(4, x.mark(1, 1, 4));
        due(5, x.mark(1, 2, 5));
        due(INDEX, x.copy(0, 3, 1, 1, 3));
        due(INDEX, x.copy(0, 0, 1, 0, 4));
        due(INDEX, x.copy(0, 4, 1, 0, 2));
        due(INDEX, x.copy(0, -1, 1, 0, 1));
        due(INDEX, x.copy(0, 0, 1, -1, 1));
        due(INDEX, x.copy(0, 0, 1, 0, -1));
        due(INDEX, x.copy(0, 1, 1, 1, MAX));
        due(INDEX, x.copy(0, MAX, 1, MAX, MAX));
        due(INDEX, x.copy(0, 6, 1, 0, 0));
        due(0, x.copy(0, 5, 1, 3, 0));
        due(4, x.mark(1, 1, 4));
        // in one sheet: as they were ahead of it
        due(4, x.copy(0, 0, 0, 1, 4));
        int[] up = {1, 1, 2, 3, 4};
        for (int i = 0; i < 5; i++) due(up[i], x.mark(0, i, i + 1));
        due(4, x.copy(0, 1, 0, 0, 4));
        int[] down = {2, 3, 4, 5, 5};
        for (int i = 0; i < 5; i++) due(down[i], x.mark(0, i, i + 1));
    }

    private static void p37() {
        fresh(37);
        due(BAD, x.count(-1));
        due(BAD, x.count(10));
        x.door(0, 1);
        x.door(0, 1);
        for (int i = 0; i < 5; i++) x.shop(0, 0, 0, 1, 1);
        for (int i = 0; i < 4; i++) x.move(i, i);
        x.move(0, NONE);
        for (int i = 0; i < 6; i++) x.take(0, 0, 1);
        for (int i = 0; i < 2; i++) x.withdraw(i);
        leased(2, "base 1 turn 1 leave 1", 3);
        leased(2, "base 1 turn 1 leave 1", 3);
        for (int i = 0; i < 7; i++) x.tell(i);
        x.feed(1, 2, 3);
        x.trim(8);
        x.months(9);
        int[] counts = {2, 5, 3, 6, 2, 1, 5, 7, 8, 9};
        for (int what = 0; what < 10; what++) due(counts[what], x.count(what));
    }
}
