/** The edges that the document names of falls and mixes: promises 24 to 31. */
public final class EdgesMixesTest extends Bench {
    public static void main(String[] args) {
        fallHowMany();
        fallWhoIsAsked();
        fallAllAskedAnew();
        fallByTakings();
        fallAsByAMove();
        fallFull();
        fallen();
        without();
        withoutAllStays();
        brokenApart();
        brokenPairs();
        mixTries();
        mixTriesAtTheMost();
        mixOutAndFree();
        mixNoWordBroken();
        mixWorth();
        mixFewest();
        mixFirstByPlaces();
        mixed();
        tell();
        checkRows();
        checkPlacesThatGetOne();
        checkUsesUp();
        checkSpent();
        end(24, 31, 0);
    }

    private static void fallHowMany() {
        about(24, "THE FALL is done: how many SHOPS leave.");
        due(0, x.fall());
        for (int i = 0; i < 12; i++) shopsIn(i);
        due(0, x.fall());
        for (int i = 0; i < 12; i++) leased(i, LEAVES, 3);
        due(12, x.fall());
        due(0, x.count(2));
        due(24, x.count(6));
        due(0, x.fall());
        due(24, x.count(6));
    }

    private static void fallWhoIsAsked() {
        about(24, "of SHOPS that are IN TODAY with a LEASE the least by number whose E of leave is not 0");
        shopsIn(0, 1, 2, 3);
        shops(1);
        // 0 has none, 1 stays, 2 gives less than 0, 3 the least int; 4 is out
        leased(1, STAYS, 3);
        leased(2, "base 0 turn 0 leave 0-1", 4);
        leased(3, "base 0 turn 0 leave 65536*32768", 4);
        leased(4, LEAVES, 3);
        due(2, x.fall());
        due(2, x.fallen(0));
        due(3, x.fallen(1));
        due(2, x.count(2));
        due(0, x.stands(0, 0, 0));
        due(1, x.stands(1, 0, 0));
        // one that was in last month and is out today
        fresh();
        shopsIn(0);
        leased(0, LEAVES, 3);
        months(1);
        x.move(0, NONE);
        due(0, x.fall());
        x.move(0, 11);
        due(1, x.fall());
    }

    private static void fallAllAskedAnew() {
        about(24, "then the next one, all asked anew, till none leaves");
        shopsIn(0, 1, 2, 3);
        leased(0, "base 0 turn 0 leave o<1", 4);
        leased(1, "base 0 turn 0 leave o<2", 4);
        leased(2, "base 0 turn 0 leave o<3", 4);
        due(0, x.fall());
        leased(3, LEAVES, 3);
        due(4, x.fall());
        for (int i = 0; i < 4; i++) due(3 - i, x.fallen(i));
        // it ends where none leaves: shop 0 leaves, then 2; 1 comes to its own end last
        fresh();
        shopsIn(0, 1, 2);
        leased(0, "base 0 turn 0 leave o=2", 4);
        leased(1, "base 0 turn 0 leave o=0", 4);
        leased(2, "base 0 turn 0 leave o=1", 4);
        due(3, x.fall());
        due(0, x.fallen(0));
        due(2, x.fallen(1));
        due(1, x.fallen(2));
        fresh();
        shopsIn(0, 1, 2);
        leased(0, "base 0 turn 0 leave o=2", 4);
        leased(1, "base 0 turn 0 leave o=0", 4);
        due(1, x.fall());
        due(2, x.count(2));
    }

    private static void fallByTakings() {
        about(24, "(t of TODAY AS KNOWN TODAY)");
        shopsIn(0);
        leased(0, "base 0 turn 0 leave t<10", 4);
        x.take(0, 0, 10);
        due(0, x.fall());
        months(1);
        x.take(0, 0, -1);
        x.take(0, 1, 10);
        due(0, x.fall());
        x.withdraw(2);
        due(1, x.fall());
        due(NONE, x.stands(0, 1, 0));
    }

    private static void fallAsByAMove() {
        about(24, "leaves (it is OUT, as by a MOVE)");
        shopsIn(5);
        leased(0, "base 0 turn 0 leave m>1", 4);
        months(1);
        due(0, x.fall());
        months(1);
        due(1, x.count(6));
        due(1, x.fall());
        due(2, x.count(6));
        months(1);
        due(5, x.stands(0, 0, 0));
        due(5, x.stands(0, 1, 0));
        due(NONE, x.stands(0, 2, 0));
        due(NONE, x.stands(0, 3, 0));
        due(NO, x.move(0, NONE));
        due(NONE, x.move(0, 5));
    }

    private static void fallFull() {
        about(24, "FULL: 200 MOVES would be too few (none leaves then).");
        shops(4);
        x.move(1, 1);
        x.move(2, 2);
        x.move(3, 3);
        leased(3, LEAVES, 3);
        due(1, x.fall());
        due(NONE, x.move(3, 3));
        moves(0, 193);
        due(198, x.count(6));
        for (int shop = 1; shop < 4; shop++) leased(shop, LEAVES, 3);
        // three would leave, two moves are left
        due(FULL, x.fall());
        due(198, x.count(6));
        due(4, x.count(2));
        for (int shop = 1; shop < 4; shop++) due(shop, x.stands(shop, 0, 0));
        due(3, x.fallen(0));
        due(NONE, x.fallen(1));
        // two leave with the last two moves
        leased(2, STAYS, 3);
        due(2, x.fall());
        due(200, x.count(6));
        due(1, x.fallen(0));
        due(3, x.fallen(1));
        // none leaves: that needs no moves
        due(0, x.fall());
        due(NONE, x.fallen(0));
        leased(2, LEAVES, 3);
        due(FULL, x.fall());
        due(2, x.stands(2, 0, 0));
        due(200, x.count(6));
    }

    private static void fallen() {
        about(25, "BAD: i below 0; NONE: there were not so many.");
        for (int i : new int[] {-1, MIN}) due(BAD, x.fallen(i));
        for (int i : new int[] {0, 1, 12, MAX}) due(NONE, x.fallen(i));
        for (int i = 0; i < 12; i++) shopsIn(11 - i);
        for (int i = 0; i < 12; i++) leased(i, LEAVES, 3);
        due(12, x.fall());
        for (int i = 0; i < 12; i++) due(i, x.fallen(i));
        for (int i : new int[] {12, 13, MAX}) due(NONE, x.fallen(i));
        for (int i : new int[] {-1, MIN}) due(BAD, x.fallen(i));

        about(25, "The i-th SHOP that left in the latest FALL.");
        shopsIn(0, 1);
        leased(1, LEAVES, 3);
        x.fall();
        due(1, x.fallen(0));
        due(NONE, x.fallen(1));
        x.move(1, 5);
        x.move(0, NONE);
        due(1, x.fallen(0));
        due(0, x.without(1));
        due(1, x.fallen(0));
        months(1);
        due(1, x.fallen(0));
        x.move(1, NONE);
        due(0, x.fall());
        due(NONE, x.fallen(0));
    }

    private static void without() {
        about(26, "if a SHOP that is IN left first (it does not count)");
        shopsIn(0);
        due(0, x.without(0));
        leased(0, LEAVES, 3);
        due(0, x.without(0));
        fresh();
        for (int i = 0; i < 12; i++) shopsIn(i);
        for (int i = 0; i < 12; i++) leased(i, "base 0 turn 0 leave o<11", 4);
        due(0, x.fall());
        due(11, x.without(0));
        due(11, x.without(11));

        about(26, "BAD; NO: it is OUT.");
        due(BAD, x.without(0));
        shops(1);
        due(NO, x.without(0));
        for (int shop : new int[] {-1, 1, 12, MIN, MAX}) due(BAD, x.without(shop));
        x.move(0, 0);
        due(0, x.without(0));
        months(1);
        x.move(0, NONE);
        due(NO, x.without(0));
    }

    private static void withoutAllStays() {
        about(26, "(All stays.)");
        shopsIn(0, 1, 2);
        leased(1, "base 0 turn 0 leave o<2", 4);
        leased(2, "base 0 turn 0 leave o<1", 4);
        due(2, x.without(0));
        due(2, x.without(0));
        due(3, x.count(2));
        due(3, x.count(6));
        for (int shop = 0; shop < 3; shop++) due(shop, x.stands(shop, 0, 0));
        due(NONE, x.fallen(0));
        // also where no move could be told
        shops(1);
        moves(3, 197);
        due(200, x.count(6));
        due(0, x.without(0));
        due(0, x.without(3));
        leased(1, LEAVES, 3);
        due(1, x.without(3));
        due(200, x.count(6));
        due(11, x.stands(3, 0, 0));
    }

    private static void brokenApart() {
        about(27, "two SHOPS of one SORT are IN PLACES that are NEAR or less apart, by the NEAR of one of them");
        for (int near = 0; near <= 11; near++) {
            fresh();
            x.shop(0, 7, 0, 100 * near + 1, 1);
            x.shop(0, 7, 0, 1, 1);
            x.shop(0, 6, 0, 1101, 1);
            x.move(0, 0);
            due(0, x.broken());
            for (int place = 1; place < 12; place++) {
                x.move(1, place);
                due(place <= near ? 1 : 0, x.broken());
            }
            x.move(2, 5);
            due(near == 11 ? 1 : 0, x.broken());
            x.move(0, NONE);
            due(0, x.broken());
            x.move(1, 0);
            x.move(0, 11);
            due(near == 11 ? 1 : 0, x.broken());
        }
    }

    private static void brokenPairs() {
        about(27, "How many words are broken TODAY (pairs of SHOPS).");
        due(0, x.broken());
        for (int i = 0; i < 12; i++) {
            x.shop(0, 0, 0, 1101, 1);
            x.move(i, i);
            due(i * (i + 1) / 2, x.broken());
        }
        months(1);
        for (int i = 11; i > 0; i--) {
            x.move(i, NONE);
            due(i * (i - 1) / 2, x.broken());
        }
    }

    private static void mixTries() {
        about(28, "WORTH of THE MIX, found with so many TRIES (1 .. 50000). BAD; SPENT.");
        for (int tries : new int[] {0, -1, 50001, MIN, MAX}) due(BAD, x.mix(tries));
        due(0, x.mix(1));
        due(0, x.mix(50000));
        shops(5);
        for (int tries : new int[] {0, -1, 50001, MIN, MAX}) due(BAD, x.mix(tries));

        about(28, "one that breaks nothing by then is put (a TRY; nobody is none)");
        shops(1);
        due(100, x.mix(12));
        due(SPENT, x.mix(11));
        due(SPENT, x.mix(1));
        // where only one place is free, one is enough
        for (int i = 0; i < 11; i++) shopsIn(i);
        due(100, x.mix(1));
        // two to two places: each to each, and both of them in two ways
        x.move(11, NONE);
        due(200, x.mix(6));
        due(SPENT, x.mix(5));
        // one that breaks a word is no try
        fresh();
        x.shop(0, 0, 0, 1001, 100);
        x.move(0, 0);
        shops(1);
        due(100, x.mix(1));
        due(1, x.mixed(1, 11));
    }

    /** Shops of these sorts and NEARs; those with a place are put there. */
    private static void furnished(int[] sort, int[] near, int[] at) {
        for (int i = 0; i < sort.length; i++) {
            due(i, x.shop(0, sort[i], 0, 100 * near[i] + 1, 100));
            if (at[i] >= 0) due(NONE, x.move(i, at[i]));
        }
    }

    /** With this arcade THE MIX is found with 50000 tries, not with one less. */
    private static void exactlyTheMost() {
        furnished(new int[] {2, 2, 0, 1, 3, 0, 3, 2}, new int[] {5, 2, 2, 1, 0, 6, 2, 4},
                new int[] {8, 11, -1, -1, -1, -1, -1, -1});
    }

    /** With this one only with 50001. */
    private static void oneMoreThanTheMost() {
        furnished(new int[] {3, 1, 1, 2, 3, 1, 0, 4, 1}, new int[] {1, 1, 0, 7, 0, 2, 0, 1, 1},
                new int[] {5, 6, 9, -1, -1, -1, -1, -1, -1});
    }

    private static void mixTriesAtTheMost() {
        about(28, "SPENT: more than so many TRIES would be done.");
        exactlyTheMost();
        due(600, x.mix(50000));
        due(SPENT, x.mix(49999));
        due(SPENT, x.mix(1));
        due(2, x.count(6));
        due(2, x.count(2));
        fresh();
        oneMoreThanTheMost();
        due(SPENT, x.mix(50000));
        due(BAD, x.mix(50001));
        x.move(8, 11);
        due(500, x.mix(50000));
    }

    private static void mixOutAndFree() {
        about(28, "SHOPS that are OUT TODAY are put to PLACES that are free TODAY");
        // all are in
        for (int i = 0; i < 12; i++) shopsIn(i);
        due(0, x.mix(1));
        for (int place = 0; place < 12; place++) due(NONE, x.mixed(1, place));
        months(1);
        x.move(4, NONE);
        due(100, x.mix(1));
        due(4, x.mixed(1, 4));
        // who is in today does not come, wherever it was
        fresh();
        shopsIn(0);
        months(1);
        x.move(0, NONE);
        due(100, x.mix(12));
        due(0, x.mixed(12, 11));
        x.move(0, 3);
        due(0, x.mix(1));
    }

    private static void mixNoWordBroken() {
        about(28, "so that no word is broken (also none of those that are IN by those that are put");
        for (int near = 0; near <= 11; near++) {
            // by the NEAR of the one that is in, then by the NEAR of the one that is put
            for (int of = 0; of < 2; of++) {
                fresh();
                x.shop(0, 5, 0, of == 0 ? 100 * near + 1 : 1, 100);
                x.shop(0, 5, 0, of == 1 ? 100 * near + 1 : 1, 100);
                x.move(0, 0);
                int free = 11 - Math.max(0, near);
                due(free == 0 ? 0 : 100, x.mix(Math.max(1, free)));
                if (free > 1) due(SPENT, x.mix(free - 1));
                due(free == 0 ? NONE : 1, x.mixed(11, 11));
            }
        }
        // between two that are put
        fresh();
        x.shop(0, 5, 0, 1001, 100);
        x.shop(0, 5, 0, 1, 100);
        due(200, x.mix(26));
        due(SPENT, x.mix(25));
        due(0, x.mixed(26, 0));
        due(1, x.mixed(26, 11));
        x.shop(0, 5, 0, 1101, 200);
        due(200, x.mix(38));
        due(2, x.mixed(38, 11));
        due(NONE, x.mixed(38, 0));

        about(28, "what is broken between such as are IN does not count)");
        x.shop(0, 5, 0, 1101, 100);
        x.shop(0, 5, 0, 1101, 100);
        x.move(0, 4);
        x.move(1, 5);
        x.shop(0, 6, 0, 1101, 100);
        due(1, x.broken());
        due(100, x.mix(10));
        due(2, x.mixed(10, 11));
    }

    private static void mixWorth() {
        about(28, "with the most WORTH together (each ASK times FEET / 100, cut)");
        x.shop(0, 0, 0, 1, 1);
        x.shop(0, 0, 0, 1, 1);
        for (int place = 0; place < 12; place++) x.feet(place, 99);
        due(0, x.mix(50000));
        x.feet(3, 100);
        due(1, x.mix(50000));
        x.feet(3, 199);
        x.feet(5, 199);
        due(2, x.mix(50000));
        x.feet(3, 200);
        due(3, x.mix(50000));
        fresh();
        for (int i = 0; i < 4; i++) x.shop(0, 0, 0, 1, 999);
        for (int place = 0; place < 12; place++) x.feet(place, 999);
        due(4 * 9980, x.mix(50000));
        for (int place = 0; place < 12; place++) x.feet(place, 10);
        due(4 * 99, x.mix(50000));
    }

    private static void mixFewest() {
        about(28, "of several with the fewest SHOPS put");
        x.shop(0, 0, 0, 1, 1);
        x.feet(0, 99);
        for (int place = 1; place < 12; place++) x.feet(place, 10);
        due(0, x.mix(50000));
        for (int place = 0; place < 12; place++) due(NONE, x.mixed(50000, place));
        // one with as much as two that it can't stand beside
        fresh();
        x.shop(0, 0, 0, 1, 60);
        x.shop(0, 0, 0, 1, 40);
        x.shop(0, 0, 0, 1101, 100);
        due(100, x.mix(50000));
        due(2, x.mixed(50000, 11));
        for (int place = 0; place < 11; place++) due(NONE, x.mixed(50000, place));
        // fewer are ahead of more, also where those with more come first by places
        fresh();
        for (int place = 0; place < 12; place++) x.feet(place, place == 0 ? 150 : 149);
        for (int i = 0; i < 3; i++) x.shop(0, 0, 0, 1, 1);
        due(3, x.mix(50000));
        for (int i = 0; i < 3; i++) due(i, x.mixed(50000, 9 + i));
        x.shop(0, 0, 0, 1101, 2);
        due(3, x.mix(50000));
        due(3, x.mixed(50000, 0));
        for (int place = 1; place < 12; place++) due(NONE, x.mixed(50000, place));
        // one coin more is ahead of fewer
        fresh();
        x.shop(0, 0, 0, 1, 60);
        x.shop(0, 0, 0, 1, 41);
        x.shop(0, 0, 0, 1101, 100);
        due(101, x.mix(50000));
        due(0, x.mixed(50000, 10));
        due(1, x.mixed(50000, 11));
    }

    private static void mixFirstByPlaces() {
        about(28, "of several the first by PLACES (nobody ahead of all SHOPS, these by number)");
        shops(1);
        due(0, x.mixed(50000, 11));
        shops(1);
        due(0, x.mixed(50000, 10));
        due(1, x.mixed(50000, 11));
        for (int place = 0; place < 10; place++) due(NONE, x.mixed(50000, place));
        x.feet(11, 99);
        due(0, x.mixed(50000, 9));
        due(1, x.mixed(50000, 10));
        due(NONE, x.mixed(50000, 11));
        x.feet(0, 101);
        due(0, x.mixed(50000, 0));
        due(1, x.mixed(50000, 10));
        // who asks more gets the better place, whatever its number
        x.shop(0, 0, 0, 1, 101);
        x.feet(0, 999);
        due(2, x.mixed(50000, 0));
        due(0, x.mixed(50000, 9));
        due(1, x.mixed(50000, 10));
    }

    private static void mixed() {
        about(29, "The SHOP that THE MIX puts to a PLACE. BAD; SPENT; NONE: nobody.");
        due(NONE, x.mixed(1, 0));
        due(NONE, x.mixed(50000, 11));
        shops(1);
        due(0, x.mixed(12, 11));
        due(NONE, x.mixed(12, 0));
        due(SPENT, x.mixed(11, 11));
        due(SPENT, x.mixed(1, 0));
        for (int tries : new int[] {0, -1, 50001, MIN, MAX}) due(BAD, x.mixed(tries, 0));
        for (int place : new int[] {-1, 12, MIN, MAX, NONE}) {
            due(BAD, x.mixed(12, place));
            due(BAD, x.mixed(11, place));
        }
        x.feet(0, 101);
        due(0, x.mixed(12, 0));
        // the shop is not put in truth
        due(0, x.count(2));
        due(0, x.count(6));
        fresh();
        exactlyTheMost();
        due(NONE, x.mixed(50000, 8));
        due(SPENT, x.mixed(49999, 8));
        fresh();
        oneMoreThanTheMost();
        due(SPENT, x.mixed(50000, 8));
    }

    private static void tell() {
        about(30, "One more number waits: how many. FULL: 24 wait.");
        int[] any = {MIN, MAX, 0, -1, NONE, BAD};
        for (int i = 0; i < 24; i++) {
            due(i, x.count(7));
            due(i + 1, x.tell(any[i % 6]));
        }
        due(FULL, x.tell(0));
        due(FULL, x.tell(MIN));
        due(24, x.count(7));
        due(1, x.check());
        due(0, x.count(7));
        due(1, x.tell(0));
    }

    /** Six are in, six are put to the other places: 0 6, 1 7, .., 5 11. */
    private static int[] sixRows() {
        for (int i = 0; i < 6; i++) shopsIn(6 + i);
        shops(6);
        return new int[] {0, 6, 1, 7, 2, 8, 3, 9, 4, 10, 5, 11};
    }

    private static void checkRows() {
        about(31, "two by two: 0; else 1 and how many stand right ahead of the first that is not (or is missing, or one too many)");
        due(0, x.check());
        x.tell(0);
        due(1, x.check());
        due(0, x.check());
        int[] rows = sixRows();
        for (int many = 0; many <= 12; many++) {
            for (int i = 0; i < many; i++) due(i + 1, x.tell(rows[i]));
            due(many == 12 ? 0 : 1 + many, x.check());
        }
        for (int many = 13; many <= 24; many += 11) {
            for (int i = 0; i < many; i++) x.tell(rows[i % 12]);
            due(13, x.check());
        }
        fresh();
        sixRows();
        for (int bad = 0; bad < 12; bad++) {
            for (int i = 0; i < 12; i++) x.tell(i == bad ? rows[i] + (bad % 3 - 1) * 256 - 1 : rows[i]);
            due(1 + bad, x.check());
        }
        // places that get nobody have no row
        fresh();
        x.shop(0, 0, 0, 1, 1);
        x.tell(11);
        x.tell(0);
        due(0, x.check());
        for (int place = 0; place < 12; place++) x.feet(place, 10);
        due(0, x.check());
        x.tell(11);
        due(1, x.check());
    }

    private static void checkPlacesThatGetOne() {
        about(31, "ROWS of THE MIX: of each PLACE that gets one the PLACE and the SHOP.");
        shopsIn(3);
        due(0, x.check());
        shops(2);
        x.feet(0, 101);
        int[] rows = {0, 1, 11, 2};
        for (int row : rows) x.tell(row);
        due(0, x.check());
        // by places, not by shops
        x.tell(11);
        x.tell(2);
        x.tell(0);
        x.tell(1);
        due(1, x.check());
        // the shop ahead of its place
        x.tell(0);
        x.tell(1);
        x.tell(2);
        x.tell(11);
        due(3, x.check());
        // who is in has no row
        x.tell(0);
        x.tell(1);
        x.tell(3);
        x.tell(0);
        due(3, x.check());
    }

    private static void checkUsesUp() {
        about(31, "The numbers that wait (none do then) are ROWS of THE MIX");
        int[] rows = sixRows();
        for (int i = 0; i < 12; i++) x.tell(rows[i]);
        due(12, x.count(7));
        due(0, x.check());
        due(0, x.count(7));
        due(1, x.check());
        x.tell(0);
        due(2, x.check());
        due(0, x.count(7));
        // nobody is put by it
        due(6, x.count(2));
        due(6, x.count(6));
    }

    private static void checkSpent() {
        about(31, "(with 50000 TRIES)");
        exactlyTheMost();
        due(1, x.check());
        int[] rows = {2, 7, 3, 2, 6, 4, 7, 3, 9, 6, 10, 5};
        for (int row : rows) x.tell(row);
        due(0, x.check());
        fresh();
        oneMoreThanTheMost();
        due(SPENT, x.check());
        x.tell(0);
        x.tell(1);
        due(SPENT, x.check());
        due(0, x.count(7));
        due(3, x.count(6));
        due(1, x.tell(5));
    }
}
