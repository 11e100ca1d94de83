/** The edges that the document names of takings, the tape, rents and charges: promises 13 to 23 but 20. */
public final class EdgesTakingsTest extends Bench {
    public static void main(String[] args) {
        takeAHundred();
        takeMonths();
        takeCoins();
        takeToldToday();
        takeRefusedFirst();
        withdraw();
        line();
        takingsTold();
        takingsWithdrawn();
        takingsTogether();
        takingsRefused();
        beyondLow();
        beyondHigh();
        beyondExtremes();
        beyondRefused();
        feedBytes();
        feedFull();
        trim();
        rent();
        rentAgainAndAgain();
        rentAsKnown();
        rentAsTheyAre();
        rentRefused();
        rents();
        chargeCoins();
        chargeLeftOver();
        chargeNobody();
        chargeRefused();
        end(13, 23, 20);
    }

    private static void takeAHundred() {
        about(13, "TAKINGS are LINES, 100 at most, numbered from 0");
        shops(1);
        for (int i = 0; i < 100; i++) {
            due(i, x.count(3));
            due(i, x.take(0, 0, 1));
        }
        due(FULL, x.take(0, 0, 1));
        due(100, x.count(3));
        due(100, x.takings(0, 0, 0));
        due(BAD, x.line(100, 0));
        // one that is withdrawn is a line, too
        due(1, x.withdraw(50));
        due(FULL, x.take(0, 0, 1));
        due(99, x.takings(0, 0, 0));
    }

    private static void takeMonths() {
        about(13, "of a SHOP for a MONTH (0 .. TODAY)");
        shops(1);
        due(BAD, x.take(0, 1, 5));
        due(0, x.take(0, 0, 5));
        months(120);
        due(1, x.take(0, 0, 6));
        due(2, x.take(0, 120, 7));
        for (int month : new int[] {-1, 121, MIN, MAX}) due(BAD, x.take(0, month, 5));
        due(3, x.count(3));
        due(11, x.takings(0, 0, 120));
        due(7, x.takings(0, 120, 120));
    }

    private static void takeCoins() {
        about(13, "COINS -99999 .. 99999 (below 0: what came back)");
        shops(1);
        for (int coins : new int[] {-100000, 100000, MIN, MAX}) due(BAD, x.take(0, 0, coins));
        due(0, x.count(3));
        due(0, x.take(0, 0, 99999));
        due(99999, x.takings(0, 0, 0));
        due(1, x.take(0, 0, -99999));
        due(0, x.takings(0, 0, 0));
        due(2, x.take(0, 0, 0));
        due(99999, x.line(0, 2));
        due(-99999, x.line(1, 2));
        due(0, x.line(2, 2));
    }

    private static void takeToldToday() {
        about(13, "TOLD TODAY");
        shops(1);
        x.take(0, 0, 1);
        months(120);
        x.take(0, 0, 2);
        due(0, x.line(0, 3));
        due(120, x.line(1, 3));
        due(1, x.takings(0, 0, 119));
        due(3, x.takings(0, 0, 120));
    }

    private static void takeRefusedFirst() {
        about(13, "BAD: shop, month (0 .. TODAY), coins; FULL.");
        due(BAD, x.take(0, 0, 0));
        shops(2);
        for (int shop : new int[] {-1, 2, MIN, MAX}) due(BAD, x.take(shop, 0, 5));
        due(0, x.count(3));
        for (int i = 0; i < 100; i++) due(i, x.take(1, 0, 3));
        due(BAD, x.take(2, 0, 0));
        due(BAD, x.take(0, 1, 0));
        due(BAD, x.take(0, 0, 100000));
        due(FULL, x.take(0, 0, 99999));
        due(0, x.takings(0, 0, 0));
        due(300, x.takings(1, 0, 0));
    }

    private static void withdraw() {
        about(14, "A LINE is WITHDRAWN: 1. BAD; NO: it is.");
        due(BAD, x.withdraw(0));
        shops(1);
        for (int i = 0; i < 100; i++) x.take(0, 0, 1);
        for (int line : new int[] {-1, 100, MIN, MAX}) due(BAD, x.withdraw(line));
        due(0, x.count(4));
        due(1, x.withdraw(0));
        due(1, x.withdraw(99));
        due(NO, x.withdraw(0));
        due(2, x.count(4));
        due(98, x.takings(0, 0, 0));

        about(14, "one may be WITHDRAWN TODAY");
        shops(1);
        x.take(0, 0, 5);
        months(120);
        due(1, x.withdraw(0));
        due(120, x.line(0, 4));
        fresh();
        shops(1);
        x.take(0, 0, 5);
        due(1, x.withdraw(0));
        due(0, x.line(0, 4));
        months(3);
        // refused: the month stays
        due(NO, x.withdraw(0));
        due(0, x.line(0, 4));
        due(1, x.count(4));
    }

    private static void line() {
        about(15, "4 WITHDRAWN (NONE). BAD.");
        due(BAD, x.line(0, 0));
        shops(12);
        x.take(11, 0, -99999);
        months(120);
        x.take(0, 120, 99999);
        int[][] want = {{11, 0, -99999, 0, NONE}, {0, 120, 99999, 120, NONE}};
        for (int line = 0; line < 2; line++) {
            for (int what = 0; what <= 4; what++) due(want[line][what], x.line(line, what));
        }
        for (int what : new int[] {-1, 5, MIN, MAX}) due(BAD, x.line(0, what));
        for (int line : new int[] {-1, 2, 100, MIN, MAX}) due(BAD, x.line(line, 0));
        x.withdraw(0);
        due(120, x.line(0, 4));
        due(0, x.line(0, 3));
        due(NONE, x.line(1, 4));
    }

    private static void takingsTold() {
        about(16, "of all LINES TOLD by then");
        shops(2);
        months(2);
        x.take(0, 1, 7);
        months(3);
        x.take(0, 1, 10);
        for (int known = 0; known <= 5; known++) {
            due(known < 2 ? 0 : known < 5 ? 7 : 17, x.takings(0, 1, known));
            due(0, x.takings(0, 0, known));
            due(0, x.takings(0, 2, known));
            due(0, x.takings(1, 1, known));
        }
    }

    private static void takingsWithdrawn() {
        about(16, "and not WITHDRAWN by then");
        shops(1);
        months(1);
        x.take(0, 0, 9);
        x.take(0, 1, 4);
        x.withdraw(1);
        months(3);
        x.withdraw(0);
        months(1);
        for (int known = 0; known <= 5; known++) {
            due(known >= 1 && known < 4 ? 9 : 0, x.takings(0, 0, known));
            due(0, x.takings(0, 1, known));
        }
    }

    private static void takingsTogether() {
        about(16, "together, 0 at least");
        shops(1);
        due(0, x.takings(0, 0, 0));
        x.take(0, 0, 5);
        x.take(0, 0, -4);
        due(1, x.takings(0, 0, 0));
        x.take(0, 0, -1);
        due(0, x.takings(0, 0, 0));
        x.take(0, 0, -1);
        due(0, x.takings(0, 0, 0));
        // what is below 0 together counts on
        x.take(0, 0, 3);
        due(2, x.takings(0, 0, 0));
        fresh();
        shops(1);
        for (int i = 0; i < 100; i++) x.take(0, 0, 99999);
        due(9999900, x.takings(0, 0, 0));
        fresh();
        shops(1);
        for (int i = 0; i < 100; i++) x.take(0, 0, -99999);
        due(0, x.takings(0, 0, 0));
    }

    private static void takingsRefused() {
        about(16, "(both 0 .. TODAY). BAD.");
        due(BAD, x.takings(0, 0, 0));
        shops(1);
        due(0, x.takings(0, 0, 0));
        due(BAD, x.takings(0, 1, 0));
        due(BAD, x.takings(0, 0, 1));
        months(120);
        due(0, x.takings(0, 120, 0));
        due(0, x.takings(0, 0, 120));
        for (int month : new int[] {-1, 121, MIN, MAX}) {
            due(BAD, x.takings(0, month, 0));
            due(BAD, x.takings(0, 0, month));
        }
        for (int shop : new int[] {-1, 1, MIN, MAX}) due(BAD, x.takings(shop, 0, 0));
    }

    /** Shop 0 with 303 foretold. */
    private static void foretold303() {
        x.door(0, 101);
        x.shop(0, 0, 1000, 3, 1);
        x.move(0, 0);
        due(303, x.stands(0, 0, 3));
    }

    /** What beyond tells, when shop 0 has taken so much in all. */
    private static void beyondBy(int coins, int want) {
        x.take(0, 0, coins - x.takings(0, 0, 0));
        due(coins, x.takings(0, 0, 0));
        due(want, x.beyond(0, 0, 0));
    }

    private static void beyondLow() {
        about(17, "takings AS KNOWN are below FORETOLD times LOW / 100 (told -1)");
        foretold303();
        beyondBy(0, -1);
        beyondBy(150, -1);
        beyondBy(151, 0);
        x.rule(0, 1);
        beyondBy(2, -1);
        beyondBy(3, 0);
        x.rule(0, 100);
        beyondBy(302, -1);
        beyondBy(303, 0);
        x.rule(0, 0);
        beyondBy(0, 0);
        x.rule(0, 33);
        beyondBy(98, -1);
        beyondBy(99, 0);
    }

    private static void beyondHigh() {
        about(17, "or above FORETOLD times HIGH / 100 (1), else 0");
        foretold303();
        beyondBy(606, 0);
        beyondBy(607, 1);
        x.rule(1, 101);
        beyondBy(306, 0);
        beyondBy(307, 1);
        x.rule(1, 100);
        beyondBy(303, 0);
        beyondBy(304, 1);
        x.rule(0, 100);
        beyondBy(303, 0);
        beyondBy(302, -1);
        beyondBy(304, 1);
        x.rule(1, 999);
        beyondBy(3026, 0);
        beyondBy(3027, 1);
    }

    private static void beyondExtremes() {
        about(17, "BEYOND: takings AS KNOWN");
        // nothing foretold
        shopsIn(0);
        beyondBy(0, 0);
        beyondBy(1, 1);
        // the most foretold: times 100 and times 999 are above the greatest int or near it
        fresh();
        for (int i = 0; i < 4; i++) x.door(0, 9999);
        x.shop(0, 0, 99999, 99, 1);
        x.move(0, 5);
        x.rule(0, 100);
        x.rule(1, 999);
        for (int i = 0; i < 39; i++) x.take(0, 0, 99999);
        beyondBy(39996 * 99 - 1, -1);
        beyondBy(39996 * 99, 0);
        for (int i = 41; i < 100; i++) x.take(0, 0, 99999);
        due(39996 * 99 + 59 * 99999, x.takings(0, 0, 0));
        due(0, x.beyond(0, 0, 0));
        x.rule(1, 250);
        due(0, x.beyond(0, 0, 0));
        x.rule(1, 249);
        due(1, x.beyond(0, 0, 0));
        // as known: the month of knowing alone moves on
        fresh();
        foretold303();
        x.take(0, 0, 303);
        months(1);
        x.take(0, 0, -303);
        due(0, x.beyond(0, 0, 0));
        due(-1, x.beyond(0, 0, 1));
    }

    private static void beyondRefused() {
        about(17, "BAD; NO: the SHOP is OUT in that MONTH.");
        due(BAD, x.beyond(0, 0, 0));
        shops(1);
        due(NO, x.beyond(0, 0, 0));
        due(BAD, x.beyond(0, 1, 0));
        due(BAD, x.beyond(0, 0, 1));
        due(BAD, x.beyond(1, 0, 0));
        x.months(1);
        x.move(0, 3);
        due(NO, x.beyond(0, 0, 0));
        due(NO, x.beyond(0, 0, 1));
        due(0, x.beyond(0, 1, 0));
        x.months(1);
        x.move(0, NONE);
        due(0, x.beyond(0, 1, 2));
        due(NO, x.beyond(0, 2, 2));
        for (int month : new int[] {-1, 3, MIN, MAX}) {
            due(BAD, x.beyond(0, month, 0));
            due(BAD, x.beyond(0, 1, month));
        }
        for (int shop : new int[] {-1, 1, MIN, MAX}) due(BAD, x.beyond(shop, 1, 0));
    }

    private static void feedBytes() {
        about(18, "Twelve bytes come to THE TAPE, the highest of each number first: how many it has.");
        shopsIn(0);
        due(12, x.feed(0x62617365, 0x28363529, 0x7475726e));
        due(24, x.feed(0x28372920, 0x6c656176, 0x65203020));
        due(3, x.lease(0));
        due(65 + 7, x.rent(0, 0, 0));
        // each byte in turn is the fault
        for (int at = 0; at < 12; at++) {
            int[] v = {0x20202020, 0x20202020, 0x20202020};
            v[at / 4] = v[at / 4] & ~(255 << 24 - at % 4 * 8) | 255 << 24 - at % 4 * 8;
            due(12, x.feed(v[0], v[1], v[2]));
            due(-100 - at, x.lease(0));
        }
        due(12, x.feed(MIN, MAX, -1));
        due(-100, x.lease(0));
    }

    private static void feedFull() {
        about(18, "FULL: it would have more than 132.");
        for (int i = 1; i <= 11; i++) due(12 * i, x.feed(MIN, MAX, 0));
        for (int n = 132; n > 120; n--) {
            due(n, x.trim(n));
            due(FULL, x.feed(0, 0, 0));
            due(n, x.count(8));
        }
        due(120, x.trim(120));
        due(132, x.feed(0, 0, 0));
        due(FULL, x.feed(0, 0, 0));
        // the bytes stay as they were
        fresh();
        shopsIn(0);
        String text = "base 7 turn 5 leave 0";
        write(text + " ".repeat(121 - text.length()));
        due(FULL, x.feed(-1, -1, -1));
        due(121, x.count(8));
        due(3, x.lease(0));
        due(12, x.rent(0, 0, 0));
        due(0, x.count(8));
        due(12, x.feed(0, 0, 0));
    }

    private static void trim() {
        about(19, "THE TAPE keeps its first n bytes: n. BAD.");
        due(0, x.trim(0));
        for (int n : new int[] {1, -1, MIN, MAX}) due(BAD, x.trim(n));
        for (int i = 1; i <= 11; i++) x.feed(0x20202020, 0x20202020, 0x20202020);
        due(BAD, x.trim(133));
        due(132, x.trim(132));
        due(131, x.trim(131));
        due(BAD, x.trim(132));
        due(BAD, x.trim(-1));
        due(131, x.count(8));
        due(1, x.trim(1));
        due(BAD, x.trim(2));
        due(13, x.feed(0, 0, 0));
        due(0, x.trim(0));
        due(0, x.count(8));
        // the first ones are kept
        shopsIn(0);
        write("base 1 turn 0 leave 0+");
        due(21, x.trim(21));
        due(BAD, x.trim(22));
        due(3, x.lease(0));
        due(1, x.rent(0, 0, 0));
    }

    private static void rent() {
        about(21, "of one that is IN then what E of base gives, 0 .. 99999, and what E of turn gives, 0 .. 99999");
        shopsIn(0);
        String[] e = {"0-1", "0", "1", "99998", "99999", "99999+1", "65536*32768", "65536*32768-1", "0-99999"};
        int[] cut = {0, 0, 1, 99998, 99999, 99999, 0, 99999, 0};
        for (int base = 0; base < e.length; base++) {
            for (int turn = 0; turn < e.length; turn += 4) {
                write("base " + e[base] + " turn " + e[turn] + " leave 1");
                x.lease(0);
                due(cut[base] + cut[turn], x.rent(0, 0, 0));
                write("base " + e[turn] + " turn " + e[base] + " leave 1");
                x.lease(0);
                due(cut[base] + cut[turn], x.rent(0, 0, 0));
            }
        }

        about(21, "without a LEASE 0; of one that is OUT 0");
        shopsIn(0);
        shops(1);
        due(0, x.rent(0, 0, 0));
        leased(1, "base 7 turn 8 leave 0", 3);
        due(0, x.rent(1, 0, 0));
        x.months(1);
        x.move(1, 1);
        x.months(1);
        x.move(1, NONE);
        due(0, x.rent(1, 0, 2));
        due(15, x.rent(1, 1, 2));
        due(0, x.rent(1, 2, 2));
        due(0, x.rent(0, 2, 2));
    }

    private static void rentAgainAndAgain() {
        about(21, "what E of base gives, 0 .. 99999");
        shopsIn(0);
        leased(0, "base 1+2*(3+4) turn !0 leave 0", 6);
        for (int i = 0; i < 400; i++) due(16, x.rent(0, 0, 0));
        due(0, x.fall());
    }

    private static void rentAsKnown() {
        about(21, "by t AS KNOWN");
        shopsIn(0);
        leased(0, "base t turn t*2 leave 0", 4);
        months(1);
        x.take(0, 0, 10);
        months(1);
        x.withdraw(0);
        x.take(0, 0, 100);
        x.take(0, 1, 1000);
        due(0, x.rent(0, 0, 0));
        due(30, x.rent(0, 0, 1));
        due(300, x.rent(0, 0, 2));
        due(0, x.rent(0, 1, 1));
        due(3000, x.rent(0, 1, 2));
    }

    private static void rentAsTheyAre() {
        about(21, "(LEASES, FEET, DOORS as they are.)");
        shopsIn(0);
        leased(0, "base f turn c leave 0", 3);
        due(100, x.rent(0, 0, 0));
        months(120);
        x.feet(0, 999);
        due(999, x.rent(0, 0, 0));
        x.door(0, 30);
        due(1029, x.rent(0, 0, 0));
        x.people(0, 0);
        due(999, x.rent(0, 0, 0));
        leased(0, "base m turn 0 leave 0", 3);
        due(0, x.rent(0, 0, 0));
        due(120, x.rent(0, 120, 0));
    }

    private static void rentRefused() {
        about(21, "RENT. BAD.");
        due(BAD, x.rent(0, 0, 0));
        shopsIn(0);
        leased(0, "base 7 turn 8 leave 0", 3);
        due(BAD, x.rent(0, 1, 0));
        due(BAD, x.rent(0, 0, 1));
        months(120);
        due(15, x.rent(0, 120, 0));
        due(15, x.rent(0, 0, 120));
        for (int month : new int[] {-1, 121, MIN, MAX}) {
            due(BAD, x.rent(0, month, 0));
            due(BAD, x.rent(0, 0, month));
        }
        for (int shop : new int[] {-1, 1, MIN, MAX}) due(BAD, x.rent(shop, 0, 0));
    }

    private static void rents() {
        about(22, "RENTS of all SHOPS for a MONTH AS KNOWN on one. BAD.");
        due(0, x.rents(0, 0));
        for (int i = 0; i < 12; i++) {
            shopsIn(i);
            due(i * 199998, x.rents(0, 0));
            leased(i, "base 99999 turn 99999 leave 0", 3);
        }
        due(12 * 199998, x.rents(0, 0));
        due(BAD, x.rents(1, 0));
        due(BAD, x.rents(0, 1));
        months(1);
        for (int i = 0; i < 12; i++) x.move(i, NONE);
        due(0, x.rents(1, 1));
        due(12 * 199998, x.rents(0, 1));
        for (int month : new int[] {-1, 2, MIN, MAX}) {
            due(BAD, x.rents(month, 0));
            due(BAD, x.rents(0, month));
        }
    }

    private static void chargeCoins() {
        about(23, "CHARGES of a MONTH, coins 0 .. 999999");
        shopsIn(3);
        due(0, x.charge(0, 0, 0));
        due(1, x.charge(0, 0, 1));
        due(999999, x.charge(0, 0, 999999));
        for (int coins : new int[] {-1, 1000000, MIN, MAX}) due(BAD, x.charge(0, 0, coins));
        // the greatest product: not above the greatest int
        x.feet(3, 999);
        due(999999, x.charge(0, 0, 999999));
        shopsIn(11);
        x.feet(11, 10);
        due(990088 + 1, x.charge(0, 0, 999999));
        due(9910, x.charge(1, 0, 999999));
    }

    private static void chargeLeftOver() {
        about(23, "each coins times FEET / FEET of all these, cut; what is left over 1 each to the first ones by PLACES");
        // by numbers they stand the other way round
        for (int i = 0; i < 12; i++) shopsIn(11 - i);
        for (int coins : new int[] {0, 1, 11, 12, 13, 23, 24, 999999}) {
            for (int i = 0; i < 12; i++) due(coins / 12 + (11 - i < coins % 12 ? 1 : 0), x.charge(i, 0, coins));
        }
        // one whose part is 0 gets one that is left over, too
        fresh();
        shopsIn(0, 1, 2);
        x.feet(0, 10);
        x.feet(1, 999);
        x.feet(2, 999);
        due(1, x.charge(0, 0, 1));
        due(0, x.charge(1, 0, 1));
        due(1, x.charge(0, 0, 3));
        due(1, x.charge(1, 0, 3));
        due(1, x.charge(2, 0, 3));

        about(23, "split by FEET among SHOPS that are IN then and are no KIOSKS");
        for (int kind = 3; kind >= 0; kind--) x.move(x.shop(kind, 0, 0, 1, 1), 3 - kind);
        due(0, x.charge(0, 0, 5));
        due(2, x.charge(1, 0, 5));
        due(2, x.charge(2, 0, 5));
        due(1, x.charge(3, 0, 5));
        x.months(1);
        x.move(1, NONE);
        due(0, x.charge(1, 1, 5));
        due(3, x.charge(2, 1, 5));
        due(2, x.charge(3, 1, 5));
        due(2, x.charge(1, 0, 5));
    }

    private static void chargeNobody() {
        about(23, "(nobody pays, if there are none)");
        shops(1);
        due(0, x.charge(0, 0, 999999));
        x.shop(3, 0, 0, 1, 1);
        x.move(1, 0);
        due(0, x.charge(1, 0, 999999));
        due(0, x.charge(0, 0, 999999));
    }

    private static void chargeRefused() {
        about(23, "CHARGE of a SHOP for a MONTH of so many coins. BAD.");
        due(BAD, x.charge(0, 0, 5));
        shopsIn(0);
        due(5, x.charge(0, 0, 5));
        due(BAD, x.charge(0, 1, 5));
        months(120);
        due(5, x.charge(0, 120, 5));
        for (int month : new int[] {-1, 121, MIN, MAX}) due(BAD, x.charge(0, month, 5));
        for (int shop : new int[] {-1, 1, MIN, MAX}) due(BAD, x.charge(shop, 0, 5));
    }
}
