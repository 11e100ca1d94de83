/** The edges that the document names of images and sheets, and of count: promises 32 to 37. */
public final class EdgesSheetsTest extends Bench {
    public static void main(String[] args) {
        keep();
        backNone();
        backAgainAndAgain();
        backToNothing();
        backKeepsAll();
        backLeavesSheetsNumbersTape();
        sheetSizes();
        sheetAllZero();
        sheetRefused();
        sheetBelowZero();
        markMissing();
        markPlaces();
        markShorts();
        markRefusedFirst();
        copyPlaces();
        copyAsTheyWere();
        copyRefusedFirst();
        copyRefusedChangesNothing();
        countRefused();
        countEmptyAndFull();
        end(32, 37, 0);
    }

    private static void keep() {
        about(32, "AN IMAGE is kept: TODAY.");
        due(0, x.keep());
        months(120);
        due(120, x.keep());
        due(120, x.back());
        fresh();
        due(0, x.keep());
        months(7);
        // the newer one stands for the older
        due(7, x.keep());
        months(1);
        due(7, x.back());
        due(7, x.back());
    }

    private static void backNone() {
        about(33, "NO: there is none.");
        shopsIn(4);
        months(3);
        x.feet(0, 77);
        due(NO, x.back());
        due(3, x.count(9));
        due(1, x.count(1));
        due(1, x.count(6));
        due(4, x.stands(0, 3, 0));
        due(77, x.feet(0, 77));
        due(3, x.keep());
        due(3, x.back());
    }

    private static void backAgainAndAgain() {
        about(33, "all can become as it is (again and again)");
        shopsIn(4);
        due(0, x.keep());
        for (int again = 0; again < 5; again++) {
            due(4, x.move(0, 5));
            due(1, x.shop(0, 0, 0, 1, 1));
            due(0, x.take(1, 0, again));
            due(24, x.months(24));
            due(100, x.feet(0, 10 + again));
            due(0, x.back());
            due(4, x.stands(0, 0, 0));
        }
        // after going back all goes on from there, and can be kept anew
        months(1);
        due(4, x.move(0, 6));
        due(1, x.keep());
        months(1);
        due(1, x.back());
        due(6, x.stands(0, 1, 0));
    }

    private static void backToNothing() {
        about(33, "All is as THE IMAGE: TODAY.");
        due(0, x.keep());
        for (int i = 0; i < 4; i++) x.door(0, 1);
        shops(12);
        moves(0, 199);
        for (int i = 0; i < 100; i++) x.take(0, 0, 1);
        leased(0, LEAVES, 3);
        due(1, x.fall());
        months(24);
        x.withdraw(99);
        x.rule(0, 1);
        x.rule(1, 101);
        for (int place = 0; place < 12; place++) x.feet(place, 10);
        due(FULL, x.door(0, 0));
        due(0, x.back());
        for (int what = 0; what <= 9; what++) due(0, x.count(what));
        due(NONE, x.fallen(0));
        due(BAD, x.isOf(0, 0));
        due(BAD, x.line(0, 0));
        due(BAD, x.people(0, 0));
        for (int place = 0; place < 12; place++) due(100, x.feet(place, 100));
        due(50, x.rule(0, 50));
        due(200, x.rule(1, 200));
        // what is new then has nothing of what was
        shopsIn(0);
        due(0, x.count(5));
        due(0, x.rent(0, 0, 0));
        due(0, x.takings(0, 0, 0));
        due(0, x.fall());
        due(0, x.take(0, 0, 5));
        due(NONE, x.line(0, 4));
    }

    private static void backKeepsAll() {
        about(33, "AN IMAGE keeps all but SHEETS, numbers that wait, THE TAPE");
        x.door(1, 100);
        x.shop(1, 2, 5500, 102, 300);
        x.shop(0, 2, 5000, 103, 200);
        x.shop(0, 3, 5000, 103, 200);
        x.move(0, 1);
        x.move(1, 3);
        leased(0, "base f+3 turn t leave 0", 4);
        leased(2, LEAVES, 3);
        x.take(0, 0, 40);
        x.take(1, 0, 50);
        x.withdraw(1);
        x.move(2, 9);
        due(1, x.fall());
        months(2);
        x.feet(1, 55);
        x.rule(0, 10);
        x.rule(1, 110);
        due(2, x.keep());
        x.people(0, 9);
        x.door(2, 9);
        x.shop(0, 0, 0, 1, 1);
        x.move(0, NONE);
        x.move(1, 1);
        leased(0, STAYS, 3);
        leased(1, LEAVES, 3);
        x.take(0, 0, 1);
        x.withdraw(0);
        x.fall();
        months(24);
        x.feet(1, 56);
        x.rule(0, 11);
        x.rule(1, 111);
        due(2, x.back());
        int[] counts = {1, 3, 2, 2, 1, 2, 4, 0, 0, 2};
        for (int what = 0; what <= 9; what++) due(counts[what], x.count(what));
        due(1, x.stands(0, 2, 0));
        due(3, x.stands(1, 2, 0));
        due(NONE, x.stands(2, 2, 0));
        due(50, x.stands(0, 2, 1));
        due((50 + 25) * 2, x.stands(0, 2, 3));
        due(55 + 3 + 40, x.rent(0, 0, 0));
        due(0, x.rent(1, 0, 0));
        due(40, x.takings(0, 0, 2));
        due(NONE, x.line(0, 4));
        due(0, x.line(1, 4));
        due(2, x.fallen(0));
        due(NONE, x.fallen(1));
        due(BAD, x.stands(0, 3, 0));
        due(100, x.people(0, 0));
        due(55, x.feet(1, 10));
        due(10, x.rule(0, 0));
        due(110, x.rule(1, 100));
    }

    private static void backLeavesSheetsNumbersTape() {
        about(33, "AN IMAGE keeps all but SHEETS, numbers that wait, THE TAPE");
        x.sheet(0, 3);
        x.tell(1);
        x.feed(1, 2, 3);
        due(0, x.keep());
        x.mark(0, 2, 9);
        x.sheet(1, 16);
        x.mark(1, 15, 8);
        for (int i = 1; i < 24; i++) x.tell(i);
        for (int i = 1; i < 11; i++) x.feed(1, 2, 3);
        due(0, x.back());
        due(9, x.mark(0, 2, 9));
        due(8, x.mark(1, 15, 8));
        due(24, x.count(7));
        due(132, x.count(8));
        due(FULL, x.tell(0));
        due(FULL, x.feed(0, 0, 0));
        x.check();
        x.trim(5);
        due(0, x.sheet(0, 0));
        due(0, x.back());
        due(0, x.count(7));
        due(5, x.count(8));
        due(INDEX, x.mark(0, 0, 0));
    }

    private static void sheetSizes() {
        about(34, "SHEETS 0, 1 are rows of shorts with 0 to 16 places (FEET by PLACES), or MISSING (at first).");
        for (int s = 0; s < 2; s++) {
            due(NOTHING, x.mark(s, 0, 0));
            due(0, x.sheet(s, 0));
            due(INDEX, x.mark(s, 0, 0));
            due(1, x.sheet(s, 1));
            due(0, x.mark(s, 0, 0));
            due(INDEX, x.mark(s, 1, 0));
            due(16, x.sheet(s, 16));
            due(0, x.mark(s, 15, 0));
            due(INDEX, x.mark(s, 16, 0));
            due(BAD, x.sheet(s, 17));
            due(0, x.mark(s, 15, 0));
        }
    }

    private static void sheetAllZero() {
        about(34, "A SHEET has n places, all 0: n.");
        due(16, x.sheet(0, 16));
        for (int i = 0; i < 16; i++) due(0, x.mark(0, i, 7));
        due(16, x.sheet(0, 16));
        for (int i = 0; i < 16; i++) due(0, x.mark(0, i, 7));
        due(3, x.sheet(0, 3));
        due(16, x.sheet(0, 16));
        for (int i = 0; i < 16; i++) due(0, x.mark(0, i, 7));
        due(0, x.sheet(0, 0));
        due(4, x.sheet(1, 4));
        due(16, x.sheet(0, 16));
        for (int i = 0; i < 16; i++) due(0, x.mark(0, i, 0));
    }

    private static void sheetRefused() {
        about(34, "BAD: sheet, n above 16; SIZE.");
        for (int s : new int[] {-1, 2, MIN, MAX}) {
            due(BAD, x.sheet(s, 5));
            due(BAD, x.sheet(s, -1));
            due(BAD, x.sheet(s, 17));
        }
        for (int s = 0; s < 2; s++) {
            for (int n : new int[] {17, MAX}) due(BAD, x.sheet(s, n));
            for (int n : new int[] {-1, MIN}) due(SIZE, x.sheet(s, n));
            // still missing
            due(NOTHING, x.mark(s, 0, 0));
            due(NOTHING, x.lay(s));
        }
        due(4, x.sheet(0, 4));
        due(0, x.mark(0, 3, 44));
        due(BAD, x.sheet(0, 17));
        due(SIZE, x.sheet(0, -1));
        due(44, x.mark(0, 3, 44));
        due(INDEX, x.mark(0, 4, 0));
    }

    private static void sheetBelowZero() {
        about(34, "SIZE: a number of places is below 0");
        due(SIZE, x.sheet(0, -1));
        due(SIZE, x.sheet(1, -17));
        due(SIZE, x.sheet(1, MIN));
        due(0, x.sheet(0, 0));
        due(NOTHING, x.mark(1, 0, 0));
        due(INDEX, x.mark(0, 0, 0));
    }

    private static void markMissing() {
        about(35, "NOTHING: a SHEET is MISSING");
        due(NOTHING, x.mark(0, 0, 0));
        due(NOTHING, x.mark(1, 0, 0));
        x.sheet(1, 0);
        due(NOTHING, x.mark(0, 0, 0));
        due(INDEX, x.mark(1, 0, 0));
        due(NOTHING, x.copy(0, 0, 1, 0, 0));
        due(0, x.copy(1, 0, 1, 0, 0));
        x.sheet(0, 0);
        due(0, x.copy(0, 0, 1, 0, 0));
    }

    private static void markPlaces() {
        about(35, "INDEX: there is no such place");
        for (int n = 0; n <= 16; n++) {
            due(n, x.sheet(0, n));
            if (n > 0) {
                due(0, x.mark(0, 0, 5));
                due(n == 1 ? 5 : 0, x.mark(0, n - 1, 6));
            }
            for (int place : new int[] {-1, n, n + 1, MIN, MAX, 65536}) due(INDEX, x.mark(0, place, 7));
            if (n > 0) due(6, x.mark(0, n - 1, 0));
            if (n > 1) due(5, x.mark(0, 0, 0));
        }
    }

    private static void markShorts() {
        about(35, "A place of a SHEET becomes v (as a short): what it was.");
        x.sheet(1, 1);
        int[] marks = {32767, 32768, -32768, -32769, 65535, 65536, 65537, MAX, MIN, -1, 98304, 0};
        int[] shorts = {32767, -32768, -32768, 32767, -1, 0, 1, -1, 0, -1, -32768, 0};
        int was = 0;
        for (int i = 0; i < marks.length; i++) {
            due(was, x.mark(1, 0, marks[i]));
            was = shorts[i];
        }
        // feet come as the short is
        x.mark(1, 0, 65536 + 500);
        due(1, x.lay(1));
        due(500, x.feet(0, 100));
    }

    private static void markRefusedFirst() {
        about(35, "BAD: sheet; NOTHING; INDEX.");
        for (int s : new int[] {-1, 2, MIN, MAX}) {
            due(BAD, x.mark(s, 0, 0));
            due(BAD, x.mark(s, -1, 0));
        }
        due(NOTHING, x.mark(0, 0, 0));
        due(NOTHING, x.mark(0, -1, 0));
        due(NOTHING, x.mark(0, 16, 0));
        x.sheet(1, 2);
        due(NOTHING, x.mark(0, 0, 0));
        due(INDEX, x.mark(1, 2, 0));
        x.sheet(0, 2);
        due(0, x.mark(0, 1, 5));
        due(0, x.mark(1, 1, 6));
        due(5, x.mark(0, 1, 5));
    }

    /** Both sheets with marks of their own: 10, 11, .. and 50, 51, .. */
    private static void marked(int first, int second) {
        x.sheet(0, first);
        x.sheet(1, second);
        for (int i = 0; i < first; i++) x.mark(0, i, 10 + i);
        for (int i = 0; i < second; i++) x.mark(1, i, 50 + i);
    }

    private static void holds(int sheet, int... marks) {
        for (int i = 0; i < marks.length; i++) due(marks[i], x.mark(sheet, i, marks[i]));
        due(INDEX, x.mark(sheet, marks.length, 0));
    }

    private static void copyPlaces() {
        about(36, "So many places of a SHEET come to another one (or the same)");
        marked(5, 3);
        due(0, x.copy(0, 0, 1, 0, 0));
        due(0, x.copy(0, 5, 1, 3, 0));
        holds(1, 50, 51, 52);
        due(1, x.copy(0, 4, 1, 2, 1));
        holds(1, 50, 51, 14);
        due(3, x.copy(0, 1, 1, 0, 3));
        holds(1, 11, 12, 13);
        holds(0, 10, 11, 12, 13, 14);
        due(3, x.copy(1, 0, 0, 2, 3));
        holds(0, 10, 11, 11, 12, 13);
        marked(16, 16);
        due(16, x.copy(0, 0, 1, 0, 16));
        for (int i = 0; i < 16; i++) due(10 + i, x.mark(1, i, 0));
        // a sheet without places, and none of them
        marked(0, 2);
        due(0, x.copy(0, 0, 1, 2, 0));
        due(0, x.copy(1, 2, 0, 0, 0));
        due(0, x.copy(0, 0, 0, 0, 0));
        due(INDEX, x.copy(0, 0, 1, 0, 1));
        due(INDEX, x.copy(1, 0, 0, 0, 1));
    }

    private static void copyAsTheyWere() {
        about(36, "as they were: many");
        marked(5, 0);
        due(4, x.copy(0, 0, 0, 1, 4));
        holds(0, 10, 10, 11, 12, 13);
        marked(5, 0);
        due(4, x.copy(0, 1, 0, 0, 4));
        holds(0, 11, 12, 13, 14, 14);
        marked(5, 0);
        due(5, x.copy(0, 0, 0, 0, 5));
        holds(0, 10, 11, 12, 13, 14);
        marked(5, 0);
        due(2, x.copy(0, 0, 0, 3, 2));
        holds(0, 10, 11, 12, 10, 11);
        x.mark(0, 0, -32768);
        due(1, x.copy(0, 0, 0, 4, 1));
        holds(0, -32768, 11, 12, 10, -32768);
    }

    private static void copyRefusedFirst() {
        about(36, "BAD; NOTHING; INDEX.");
        for (int s : new int[] {-1, 2, MIN, MAX}) {
            due(BAD, x.copy(s, 0, 0, 0, 0));
            due(BAD, x.copy(0, 0, s, 0, 0));
            due(BAD, x.copy(s, -1, 0, 0, 0));
        }
        due(NOTHING, x.copy(0, 0, 0, 0, 0));
        due(NOTHING, x.copy(0, -1, 1, -1, -1));
        x.sheet(0, 5);
        due(NOTHING, x.copy(0, 0, 1, 0, 0));
        due(NOTHING, x.copy(1, 0, 0, 0, 0));
        due(NOTHING, x.copy(1, 0, 0, 0, -1));
        due(NOTHING, x.copy(0, 6, 1, 0, 0));
        due(BAD, x.copy(0, 6, 2, 0, -1));
        due(0, x.copy(0, 0, 0, 0, 0));
    }

    private static void copyRefusedChangesNothing() {
        about(36, "INDEX: there is no such place");
        marked(5, 3);
        int[][] beyond = {
            {0, 1, 4}, {0, 0, 4}, {3, 0, 3}, {4, 0, 2}, {5, 0, 1}, {0, 3, 1}, {0, 2, 2}, {6, 0, 0}, {0, 4, 0},
            {-1, 0, 1}, {0, -1, 1}, {-1, 0, 0}, {0, -1, 0}, {0, 0, -1}, {0, 0, MIN}, {0, 0, MAX}, {1, 1, MAX},
            {MAX, 0, 1}, {0, MAX, 1}, {MAX, MAX, MAX}, {MIN, 0, 1}, {0, MIN, 1}, {MIN, MIN, MIN}, {MAX, 0, 0}, {5, 3, 1}};
        for (int[] b : beyond) due(INDEX, x.copy(0, b[0], 1, b[1], b[2]));
        holds(0, 10, 11, 12, 13, 14);
        holds(1, 50, 51, 52);
        due(INDEX, x.copy(0, 1, 0, 0, 5));
        due(INDEX, x.copy(0, 0, 0, 1, 5));
        due(INDEX, x.copy(0, 0, 0, 0, 6));
        holds(0, 10, 11, 12, 13, 14);
    }

    private static void countRefused() {
        about(37, "9 TODAY. BAD.");
        for (int what : new int[] {-1, 10, MIN, MAX}) due(BAD, x.count(what));
        due(0, x.count(0));
        due(0, x.count(9));
    }

    private static void countEmptyAndFull() {
        about(37, "0 DOORS, 1 SHOPS, 2 of these that are IN TODAY, 3 LINES, 4 of these WITHDRAWN, 5 LEASES, 6 MOVES, 7 numbers that wait, 8 bytes of THE TAPE, 9 TODAY");
        for (int what = 0; what <= 9; what++) due(0, x.count(what));
        for (int i = 0; i < 4; i++) x.door(i, 0);
        shops(12);
        moves(0, 188);
        for (int i = 0; i < 12; i++) x.move(i, i);
        for (int i = 0; i < 12; i++) {
            x.feed(0x62617365, 0x20312074, 0x75726e20);
            x.feed(0x31206c65, 0x61766520, 0x30202020);
            due(3, x.lease(i));
        }
        for (int i = 0; i < 24; i++) x.tell(i);
        for (int i = 0; i < 11; i++) x.feed(0, 0, 0);
        months(120);
        int[] most = {4, 12, 12, 0, 0, 12, 200, 24, 132, 120};
        for (int what = 0; what <= 9; what++) due(most[what], x.count(what));
        fresh();
        shops(1);
        for (int i = 0; i < 100; i++) {
            x.take(0, 0, 1);
            due(i + 1, x.count(3));
            due(i, x.count(4));
            x.withdraw(i);
        }
        due(100, x.count(3));
        due(100, x.count(4));
    }
}
