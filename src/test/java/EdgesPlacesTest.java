/** The edges that the document names of places, doors and shops: promises 1 to 12. */
public final class EdgesPlacesTest extends Bench {
    public static void main(String[] args) {
        newObject();
        aRunOf512Calls();
        feetByPlaces();
        feetWithinTheirRange();
        layAsManyAsOfBoth();
        layLeavesOut();
        layRefused();
        doorsFourAtMost();
        doorsPlacesAndPeople();
        peopleOfADoor();
        shopsTwelveAtMost();
        shopsKindsAndSorts();
        shopsPullAndLure();
        shopsNearAndSpend();
        shopsAsk();
        shopsRefusedFirst();
        kinds();
        kindsRefused();
        moveOutAtFirst();
        moveToPlaces();
        moveRefused();
        moveTwoHundred();
        moveStandsTillItMovesAgain();
        moveTheLastInAMonthCounts();
        monthsOneToTwentyFour();
        monthsUpToTheLast();
        rules();
        standsRefused();
        standsOut();
        standsWhat();
        standsPulls();
        standsForetold();
        standsOthers();
        standsBeside();
        standsRivals();
        pastOverPlaces();
        pastNobody();
        pastRefused();
        end(1, 12, 0);
    }

    private static void newObject() {
        about(1, "No DOORS, no SHOPS.");
        for (int what = 0; what <= 9; what++) due(0, x.count(what));
        due(BAD, x.people(0, 0));
        due(BAD, x.isOf(0, 0));
        due(BAD, x.move(0, NONE));
        due(BAD, x.lease(0));
        due(BAD, x.without(0));
        due(0, x.rents(0, 0));
        due(0, x.fall());
        due(0, x.broken());
        due(0, x.mix(1));
        due(NONE, x.mixed(1, 0));
        due(0, x.check());

        about(1, "TODAY is MONTH 0 at first");
        due(0, x.count(9));
        due(0, x.past(0, 0));
        due(BAD, x.past(0, 1));

        about(1, "FEET of each 10 .. 999 (100 at first)");
        for (int place = 0; place < 12; place++) due(100, x.feet(place, 10));

        about(1, "0 LOW (0 .. 100; 50 at first), 1 HIGH (100 .. 999; 200)");
        due(50, x.rule(0, 0));
        due(200, x.rule(1, 100));

        about(1, "or MISSING (at first)");
        due(NOTHING, x.mark(0, 0, 0));
        due(NOTHING, x.mark(1, 0, 0));
    }

    private static void aRunOf512Calls() {
        about(1, "An object is used for at most 512 calls after it has been made");
        int calls = 12 + 4 + 200 + 100 + 24 + 11;
        shops(12);
        for (int i = 0; i < 4; i++) due(i, x.door(i, 9999));
        moves(0, 200);
        for (int i = 0; i < 100; i++) due(i, x.take(i % 12, 0, 99999));
        for (int i = 0; i < 24; i++) due(i + 1, x.tell(i));
        for (int i = 0; i < 11; i++) due(12 * i + 12, x.feed(i, i, i));
        for (; calls < 511; calls++) due(FULL, calls % 2 == 0 ? x.take(0, 0, 0) : x.move(1, 0));
        due(9 * 99999, x.takings(0, 0, 0));
    }

    private static void feetByPlaces() {
        about(2, "PLACES 0 .. 11 stand in a row");
        due(100, x.feet(0, 11));
        due(100, x.feet(11, 12));
        for (int place : new int[] {-1, 12, MIN, MAX, NONE, 65536}) due(BAD, x.feet(place, 50));
        due(11, x.feet(0, 100));
        for (int place = 1; place < 11; place++) due(100, x.feet(place, 100));
        due(12, x.feet(11, 100));
    }

    private static void feetWithinTheirRange() {
        about(2, "FEET of each 10 .. 999");
        due(100, x.feet(5, 10));
        due(10, x.feet(5, 999));
        for (int v : new int[] {9, 1000, 0, -10, -100, MIN, MAX, 65536 + 100}) due(BAD, x.feet(5, v));
        due(999, x.feet(5, 10));
        due(BAD, x.feet(5, 9));
        due(10, x.feet(5, 100));

        about(2, "FEET of a PLACE become v: what they were. BAD.");
        due(100, x.feet(4, 200));
        due(200, x.feet(4, 200));
        due(200, x.feet(4, 300));
        due(100, x.feet(3, 100));
        due(100, x.feet(5, 100));
    }

    private static void layAsManyAsOfBoth() {
        about(3, "place by place, as many as there are of both");
        for (int many : new int[] {0, 1, 11, 12, 13, 16}) {
            fresh();
            due(many, x.sheet(0, many));
            for (int i = 0; i < many; i++) due(0, x.mark(0, i, 20 + i));
            due(Math.min(12, many), x.lay(0));
            for (int place = 0; place < 12; place++) due(place < many ? 20 + place : 100, x.feet(place, 50));
        }
        // a place behind the twelfth is not looked at
        fresh();
        x.sheet(1, 13);
        x.mark(1, 12, 500);
        due(0, x.lay(1));
        for (int place = 0; place < 12; place++) due(100, x.feet(place, 50));
    }

    private static void layLeavesOut() {
        about(3, "(not 10 .. 999 is left out): how many came");
        int[] marks = {9, 10, 999, 1000, 0, -1, -10, 32767, -32768, 500, 8, 11};
        int[] feet = {100, 10, 999, 100, 100, 100, 100, 100, 100, 500, 100, 11};
        x.sheet(0, 12);
        for (int i = 0; i < 12; i++) due(0, x.mark(0, i, marks[i]));
        due(4, x.lay(0));
        for (int i = 0; i < 12; i++) due(feet[i], x.feet(i, 100));
        // the sheet itself stays, and comes again
        due(4, x.lay(0));
        due(9, x.mark(0, 0, 10));
        due(5, x.lay(0));
        due(10, x.feet(0, 100));
    }

    private static void layRefused() {
        about(3, "BAD; NOTHING.");
        x.feet(0, 77);
        x.sheet(1, 12);
        x.mark(1, 0, 88);
        for (int s : new int[] {-1, 2, MIN, MAX}) due(BAD, x.lay(s));
        due(NOTHING, x.lay(0));
        due(77, x.feet(0, 77));
        due(0, x.sheet(0, 0));
        due(0, x.lay(0));
        due(77, x.feet(0, 77));
        due(1, x.lay(1));
        due(88, x.feet(0, 77));
    }

    private static void doorsFourAtMost() {
        about(4, "DOORS, 4 at most, numbered from 0");
        for (int i = 0; i < 4; i++) {
            due(i, x.count(0));
            due(i, x.door(6, 10 + i));
        }
        due(FULL, x.door(6, 99));
        due(FULL, x.door(0, 0));
        due(4, x.count(0));
        shopsIn(6);
        due(10 + 11 + 12 + 13, x.stands(0, 0, 1));
        for (int i = 0; i < 4; i++) due(10 + i, x.people(i, 0));
        due(BAD, x.people(4, 0));

        about(4, "One more DOOR: its number. BAD; FULL.");
        for (int i = 0; i < 4; i++) due(i, x.door(0, 0));
        due(FULL, x.door(0, 0));
        due(BAD, x.door(12, 5));
        due(BAD, x.door(-1, 5));
        due(BAD, x.door(0, -1));
        due(BAD, x.door(0, 10000));
        due(4, x.count(0));
    }

    private static void doorsPlacesAndPeople() {
        about(4, "at a PLACE, with PEOPLE 0 .. 9999 in a MONTH");
        for (int place : new int[] {-1, 12, MIN, MAX, NONE}) due(BAD, x.door(place, 5));
        for (int people : new int[] {-1, 10000, MIN, MAX, 65536}) due(BAD, x.door(5, people));
        due(0, x.count(0));
        due(0, x.door(0, 0));
        due(1, x.door(11, 9999));
        shopsIn(0, 11);
        // all who come, come in at 11
        due(4999, x.past(11, 0));
        due(0, x.past(0, 0));
        due(0, x.people(0, 1));
        due(9999, x.people(1, 1));
    }

    private static void peopleOfADoor() {
        about(5, "PEOPLE of a DOOR become v: what they were. BAD.");
        due(BAD, x.people(0, 5));
        x.door(3, 7);
        x.door(4, 8);
        due(7, x.people(0, 0));
        due(0, x.people(0, 9999));
        for (int v : new int[] {-1, 10000, MIN, MAX, 65536}) due(BAD, x.people(0, v));
        for (int door : new int[] {-1, 2, 3, 4, MIN, MAX}) due(BAD, x.people(door, 5));
        due(9999, x.people(0, 9999));
        due(8, x.people(1, 8));
        shopsIn(0);
        due(9999 + 8, x.stands(0, 0, 1));
    }

    private static void shopsTwelveAtMost() {
        about(6, "SHOPS, 12 at most, numbered from 0");
        for (int i = 0; i < 12; i++) {
            due(i, x.count(1));
            due(BAD, x.isOf(i, 0));
            due(i, x.shop(i % 4, 0, 0, 1, 1));
            due(1, x.isOf(i, i % 4));
        }
        due(FULL, x.shop(0, 0, 0, 1, 1));
        due(12, x.count(1));
        due(BAD, x.isOf(12, 0));
        due(BAD, x.move(12, 0));
    }

    private static void shopsKindsAndSorts() {
        about(6, "KINDS 0 SHOP, 1 ANCHOR, 2 FOOD, 3 KIOSK");
        for (int kind : new int[] {-1, 4, MIN, MAX}) due(BAD, x.shop(kind, 0, 0, 1, 1));
        due(0, x.count(1));
        for (int kind = 0; kind < 4; kind++) due(kind, x.shop(kind, 0, 0, 1, 1));

        about(6, "a SORT 0 .. 7");
        for (int sort : new int[] {-1, 8, MIN, MAX}) due(BAD, x.shop(0, sort, 0, 1, 1));
        due(0, x.count(1));
        for (int sort = 0; sort < 8; sort++) due(sort, x.shop(0, sort, 0, 1101, 1));
        for (int shop = 0; shop < 8; shop++) x.move(shop, shop);
        due(0, x.broken());
        due(8, x.shop(0, 7, 0, 1101, 1));
        x.move(8, 11);
        due(1, x.broken());
        due(1, x.stands(7, 0, 7));
        due(0, x.stands(0, 0, 7));
    }

    private static void shopsPullAndLure() {
        about(6, "PULL 0 .. 99");
        due(BAD, x.shop(0, 0, -1, 1, 1));
        due(BAD, x.shop(0, 0, -1000, 1, 1));
        due(BAD, x.shop(0, 0, 100000, 1, 1));
        due(BAD, x.shop(0, 0, MIN, 1, 1));
        due(BAD, x.shop(0, 0, MAX, 1, 1));
        due(0, x.count(1));
        x.door(0, 9999);
        due(0, x.shop(0, 0, 0, 1, 1));
        due(1, x.shop(0, 0, 99000, 1, 1));
        due(2, x.shop(0, 0, 1000, 1, 1));
        for (int shop = 0; shop < 3; shop++) x.move(shop, shop);
        due(0, x.stands(0, 0, 1));
        due(9999 * 99 / 100, x.stands(1, 0, 1));
        due(99, x.stands(2, 0, 1));

        about(6, "LURE 0 .. 999");
        x.door(0, 1000);
        due(0, x.shop(0, 0, 0, 1, 1));
        due(1, x.shop(0, 0, 999, 1, 1));
        due(2, x.shop(0, 0, 1000, 1, 1));
        x.move(0, 0);
        x.move(1, 1);
        x.move(2, 2);
        due(0, x.stands(0, 0, 3));
        due(999, x.stands(1, 0, 3));
        due(1000, x.stands(2, 0, 3));

        about(6, "how is 1000 * PULL and LURE");
        x.door(0, 300);
        due(0, x.shop(0, 0, 1999, 1, 1));
        due(1, x.shop(0, 0, 2000, 1, 1));
        x.move(0, 0);
        x.move(1, 1);
        due(100, x.stands(0, 0, 1));
        due(200, x.stands(1, 0, 1));
        due(100 + 199, x.stands(0, 0, 3));
        due(200, x.stands(1, 0, 3));
    }

    private static void shopsNearAndSpend() {
        about(6, "SPEND 1 .. 99 (coins)");
        for (int near = 0; near <= 11; near++) due(BAD, x.shop(0, 0, 1000, 100 * near, 1));
        due(0, x.count(1));
        x.door(0, 1);
        due(0, x.shop(0, 0, 1000, 1, 1));
        due(1, x.shop(0, 0, 1000, 99, 1));
        x.move(0, 0);
        due(1, x.stands(0, 0, 3));
        x.move(0, NONE);
        x.move(1, 0);
        due(99, x.stands(1, 0, 3));

        about(6, "NEAR 0 .. 11");
        for (int words : new int[] {-1, -99, -100, 1200, 1201, 1299, MIN, MAX}) due(BAD, x.shop(0, 0, 0, words, 1));
        due(0, x.count(1));
        due(0, x.shop(0, 0, 0, 1, 1));
        due(1, x.shop(0, 0, 0, 1199, 1));
        x.move(0, 0);
        x.move(1, 11);
        due(0, x.stands(0, 0, 7));
        due(1, x.stands(1, 0, 7));

        about(6, "words 100 * NEAR and SPEND");
        x.door(0, 1);
        due(0, x.shop(0, 0, 1000, 199, 1));
        due(1, x.shop(0, 0, 0, 201, 1));
        x.move(0, 0);
        x.move(1, 2);
        due(99, x.stands(0, 0, 3));
        due(0, x.stands(0, 0, 7));
        due(1, x.stands(1, 0, 7));
        x.move(1, 1);
        due(1, x.stands(0, 0, 7));
    }

    private static void shopsAsk() {
        about(6, "ASK 1 .. 999");
        for (int ask : new int[] {0, -1, 1000, MIN, MAX}) due(BAD, x.shop(0, 0, 0, 1, ask));
        due(0, x.count(1));
        due(0, x.mix(1));
        due(0, x.shop(0, 0, 0, 1, 1));
        due(1, x.mix(12));
        x.move(0, 0);
        due(1, x.shop(0, 0, 0, 1, 999));
        due(999, x.mix(11));
    }

    private static void shopsRefusedFirst() {
        about(6, "BAD; FULL.");
        shops(12);
        due(BAD, x.shop(4, 0, 0, 1, 1));
        due(BAD, x.shop(0, 8, 0, 1, 1));
        due(BAD, x.shop(0, 0, 100000, 1, 1));
        due(BAD, x.shop(0, 0, 0, 0, 1));
        due(BAD, x.shop(0, 0, 0, 1, 0));
        due(FULL, x.shop(0, 0, 0, 1, 1));
        due(12, x.count(1));
    }

    private static void kinds() {
        about(7, "3 KIOSK, under FOOD (all are SHOPS)");
        int[][] is = {{1, 0, 0, 0}, {1, 1, 0, 0}, {1, 0, 1, 0}, {1, 0, 1, 1}};
        for (int own = 0; own < 4; own++) {
            x.shop(own, 0, 0, 1, 1);
            for (int kind = 0; kind < 4; kind++) due(is[own][kind], x.isOf(own, kind));
        }
    }

    private static void kindsRefused() {
        about(7, "Whether a SHOP is of a KIND: 1, 0. BAD.");
        due(BAD, x.isOf(0, 0));
        shops(2);
        for (int kind : new int[] {-1, 4, MIN, MAX}) due(BAD, x.isOf(0, kind));
        for (int shop : new int[] {-1, 2, MIN, MAX}) due(BAD, x.isOf(shop, 0));
        due(1, x.isOf(1, 0));
        due(0, x.isOf(1, 3));
    }

    private static void moveOutAtFirst() {
        about(8, "or OUT (at first)");
        shops(2);
        due(NONE, x.stands(0, 0, 0));
        due(0, x.count(2));
        due(NO, x.move(0, NONE));
        due(NONE, x.move(0, 0));
        due(NONE, x.stands(1, 0, 0));
    }

    private static void moveToPlaces() {
        about(8, "A SHOP MOVES TODAY to a PLACE, or OUT (NONE): where it was (NONE).");
        shops(1);
        due(NONE, x.move(0, 0));
        due(0, x.move(0, 11));
        due(11, x.move(0, NONE));
        due(NONE, x.stands(0, 0, 0));
        due(3, x.count(6));
        for (int place : new int[] {-1, 12, NONE - 1, NONE + 1, BAD, MIN, MAX}) due(BAD, x.move(0, place));
        for (int shop : new int[] {-1, 1, 12, MIN, MAX}) {
            due(BAD, x.move(shop, 0));
            due(BAD, x.move(shop, NONE));
        }
        due(3, x.count(6));
        due(NONE, x.stands(0, 0, 0));
    }

    private static void moveRefused() {
        about(8, "NO: it is there, or another one is IN it.");
        shops(2);
        due(NONE, x.move(0, 4));
        due(NO, x.move(0, 4));
        due(NO, x.move(1, 4));
        due(NO, x.move(1, NONE));
        due(1, x.count(6));
        due(4, x.stands(0, 0, 0));
        due(NONE, x.stands(1, 0, 0));
        // whoever left a place today has left it free, and earlier months do not stand in the way
        due(4, x.move(0, 5));
        due(NONE, x.move(1, 4));
        x.months(1);
        due(4, x.move(1, 6));
        due(5, x.move(0, 4));
        due(5, x.stands(0, 0, 0));
        due(4, x.stands(1, 0, 0));

        about(8, "(one in each at most)");
        shops(12);
        for (int i = 0; i < 12; i++) due(NONE, x.move(i, i));
        for (int i = 0; i < 12; i++) due(NO, x.move(i, (i + 5) % 12));
        due(12, x.count(6));
        due(12, x.count(2));
    }

    private static void moveTwoHundred() {
        about(8, "FULL: 200 MOVES were told.");
        shops(2);
        moves(0, 199);
        due(199, x.count(6));
        due(11, x.move(0, 3));
        due(200, x.count(6));
        due(FULL, x.move(0, NONE));
        due(FULL, x.move(0, 4));
        due(FULL, x.move(1, 4));
        // of several refusals the first
        due(NO, x.move(0, 3));
        due(NO, x.move(1, 3));
        due(NO, x.move(1, NONE));
        due(BAD, x.move(0, 12));
        due(BAD, x.move(2, 4));
        due(200, x.count(6));
        due(3, x.stands(0, 0, 0));
        due(NONE, x.stands(1, 0, 0));
        due(1, x.count(2));
    }

    private static void moveStandsTillItMovesAgain() {
        about(8, "stands so in this MONTH and later ones till it MOVES again");
        shops(1);
        months(3);
        x.move(0, 7);
        months(4);
        x.move(0, NONE);
        months(113);
        x.move(0, 0);
        due(120, x.count(9));
        for (int month = 0; month <= 120; month++) {
            due(month < 3 || month >= 7 && month < 120 ? NONE : month < 7 ? 7 : 0, x.stands(0, month, 0));
        }
    }

    private static void moveTheLastInAMonthCounts() {
        about(8, "(of several times in one MONTH the last counts)");
        shops(1);
        x.months(1);
        x.move(0, 1);
        x.move(0, 2);
        x.move(0, 3);
        due(3, x.stands(0, 1, 0));
        x.months(1);
        x.move(0, 4);
        x.move(0, NONE);
        x.months(1);
        due(NONE, x.stands(0, 0, 0));
        due(3, x.stands(0, 1, 0));
        due(NONE, x.stands(0, 2, 0));
        due(NONE, x.stands(0, 3, 0));
        due(5, x.count(6));
    }

    private static void monthsOneToTwentyFour() {
        about(9, "n (1 .. 24) MONTHS go: TODAY.");
        for (int n : new int[] {0, -1, 25, MIN, MAX}) due(BAD, x.months(n));
        due(0, x.count(9));
        due(1, x.months(1));
        due(25, x.months(24));
        due(BAD, x.months(-1));
        due(BAD, x.months(0));
        due(25, x.count(9));
    }

    private static void monthsUpToTheLast() {
        about(9, "BAD: also if it would be above 120.");
        for (int i = 1; i <= 4; i++) due(24 * i, x.months(24));
        due(97, x.months(1));
        due(BAD, x.months(24));
        due(97, x.count(9));
        due(120, x.months(23));
        for (int n : new int[] {1, 24, MAX}) due(BAD, x.months(n));
        due(120, x.count(9));
        fresh();
        for (int i = 1; i <= 5; i++) due(24 * i, x.months(24));
        due(BAD, x.months(1));

        about(9, "MONTHS 0 .. 120");
        months(120);
        due(0, x.past(0, 120));
        due(BAD, x.past(0, 121));
        due(0, x.past(0, 0));
        due(BAD, x.past(0, -1));
    }

    private static void rules() {
        about(10, "0 LOW (0 .. 100; 50 at first)");
        due(50, x.rule(0, 0));
        due(0, x.rule(0, 100));
        for (int v : new int[] {-1, 101, MIN, MAX}) due(BAD, x.rule(0, v));
        due(100, x.rule(0, 7));
        due(200, x.rule(1, 200));

        about(10, "1 HIGH (100 .. 999; 200)");
        due(200, x.rule(1, 100));
        due(100, x.rule(1, 999));
        for (int v : new int[] {99, 1000, 0, MIN, MAX}) due(BAD, x.rule(1, v));
        due(999, x.rule(1, 100));
        due(50, x.rule(0, 50));

        about(10, "A RULE becomes v: what it was. BAD.");
        for (int which : new int[] {-1, 2, MIN, MAX}) due(BAD, x.rule(which, 100));
        due(50, x.rule(0, 100));
        due(200, x.rule(1, 100));
        due(100, x.rule(0, 100));
        due(100, x.rule(1, 100));
    }

    private static void standsRefused() {
        about(11, "Of a SHOP for a MONTH (0 .. TODAY)");
        due(BAD, x.stands(0, 0, 0));
        shopsIn(5);
        due(BAD, x.stands(0, 1, 0));
        x.months(2);
        due(5, x.stands(0, 0, 0));
        due(5, x.stands(0, 2, 0));
        for (int month : new int[] {-1, 3, 121, MIN, MAX}) due(BAD, x.stands(0, month, 0));
        for (int shop : new int[] {-1, 1, 12, MIN, MAX}) due(BAD, x.stands(shop, 0, 0));
        for (int what : new int[] {-1, 8, MIN, MAX}) due(BAD, x.stands(0, 0, what));
    }

    private static void standsOut() {
        about(11, "BAD; NO: it is OUT (but of 0).");
        shops(1);
        due(NONE, x.stands(0, 0, 0));
        for (int what = 1; what <= 7; what++) due(NO, x.stands(0, 0, what));
        due(BAD, x.stands(0, 0, 8));
        due(BAD, x.stands(0, 0, -1));
        due(BAD, x.stands(0, 1, 1));
        due(BAD, x.stands(1, 0, 1));
        x.months(1);
        x.move(0, 3);
        for (int what = 1; what <= 7; what++) {
            due(NO, x.stands(0, 0, what));
            due(0, x.stands(0, 1, what));
        }
    }

    private static void standsWhat() {
        about(11, "what 0 its PLACE (NONE: OUT), 1 COMERS, 2 PAST its PLACE, 3 FORETOLD");
        x.door(0, 10);
        x.shop(0, 0, 1500, 2, 1);
        shopsIn(11);
        int[] at0 = {0, 5, 5, (5 + 2) * 2, 1}, at11 = {11, 5, 0, 5 * 2, 0};
        x.move(1, 9);
        x.move(0, 0);
        for (int what = 0; what <= 4; what++) due(at0[what], x.stands(0, 0, what));
        x.months(1);
        x.move(0, 11);
        x.move(1, NONE);
        x.people(0, 5);
        for (int what = 0; what <= 4; what++) due(at11[what], x.stands(0, 1, what));
        due(NONE, x.stands(1, 1, 0));
        due(9, x.stands(1, 0, 0));
    }

    private static void standsPulls() {
        about(11, "to each PEOPLE times PULL / PULLS of all that are IN (cut; nobody, if these are 0)");
        // two doors with one each: half of one is nobody, by each door for itself
        x.door(0, 1);
        x.door(0, 1);
        shopsIn(3, 4);
        due(0, x.stands(0, 0, 1));
        due(0, x.past(0, 0));
        x.people(0, 2);
        due(1, x.stands(0, 0, 1));
        due(1, x.stands(1, 0, 1));
        x.people(1, 3);
        due(2, x.stands(0, 0, 1));
        // one that is out does not pull
        x.move(1, NONE);
        due(5, x.stands(0, 0, 1));
        // nobody comes, where nobody pulls
        fresh();
        x.door(0, 9999);
        x.shop(0, 0, 999, 99, 1);
        x.move(0, 5);
        due(0, x.stands(0, 0, 1));
        due(0, x.stands(0, 0, 2));
        due(0, x.stands(0, 0, 3));
        shopsIn(8);
        due(0, x.stands(0, 0, 1));
        due(9999, x.stands(0, 0, 2));
        due(9999, x.stands(1, 0, 1));

        about(11, "COMERS of a SHOP: all who go to it.");
        for (int i = 0; i < 4; i++) x.door(i * 3, 9999);
        shopsIn(3);
        due(4 * 9999, x.stands(0, 0, 1));
        for (int i = 1; i < 12; i++) x.move(x.shop(0, 0, 99000, 1, 1), i == 3 ? 0 : i);
        due(4 * (9999 / 1090), x.stands(0, 0, 1));
        due(4 * (9999 * 99 / 1090), x.stands(11, 0, 1));
    }

    private static void standsForetold() {
        about(11, "(COMERS and (PAST its PLACE times LURE / 1000)) times SPEND");
        x.door(5, 1);
        x.shop(0, 0, 999, 99, 1);
        x.shop(0, 0, 1, 99, 1);
        x.move(0, 5);
        x.move(1, 6);
        shopsIn(7);
        due(1, x.stands(0, 0, 2));
        due(0, x.stands(0, 0, 3));
        x.people(0, 2);
        due(99, x.stands(0, 0, 3));
        x.people(0, 999);
        due(998 * 99, x.stands(0, 0, 3));
        due(0, x.stands(1, 0, 3));
        x.people(0, 1000);
        due(999 * 99, x.stands(0, 0, 3));
        due(99, x.stands(1, 0, 3));
        // the most that can be foretold
        fresh();
        for (int i = 0; i < 4; i++) x.door(0, 9999);
        x.shop(0, 0, 999, 99, 1);
        x.shop(0, 0, 99999, 99, 1);
        x.move(0, 0);
        x.move(1, 11);
        due(39996, x.stands(0, 0, 2));
        due(39956 * 99, x.stands(0, 0, 3));
        due(39996 * 99, x.stands(1, 0, 3));
    }

    private static void standsOthers() {
        about(11, "4 others that are IN, 5 ANCHORS that are IN (others)");
        for (int i = 0; i < 12; i++) {
            x.shop(1, 0, 0, 1, 1);
            x.move(i, i);
            due(i, x.stands(0, 0, 4));
            due(i, x.stands(i, 0, 5));
        }
        x.move(11, NONE);
        due(10, x.stands(0, 0, 4));
        due(10, x.stands(0, 0, 5));
        fresh();
        for (int kind = 0; kind < 4; kind++) {
            x.shop(kind, 0, 0, 1, 1);
            x.move(kind, kind);
        }
        int[] anchors = {1, 0, 1, 1};
        for (int shop = 0; shop < 4; shop++) {
            due(3, x.stands(shop, 0, 4));
            due(anchors[shop], x.stands(shop, 0, 5));
        }
    }

    private static void standsBeside() {
        about(11, "6 SHOPS IN right beside");
        shopsIn(0, 2, 11, 9);
        for (int shop = 0; shop < 4; shop++) due(0, x.stands(shop, 0, 6));
        shopsIn(1, 10);
        due(1, x.stands(0, 0, 6));
        due(1, x.stands(2, 0, 6));
        due(2, x.stands(4, 0, 6));
        due(2, x.stands(5, 0, 6));
        x.move(1, NONE);
        due(1, x.stands(4, 0, 6));
    }

    private static void standsRivals() {
        about(11, "whether some SHOP of its SORT is IN NEAR PLACES from it or nearer (1, 0)");
        for (int near = 0; near <= 11; near++) {
            fresh();
            x.shop(0, 3, 0, 100 * near + 1, 1);
            x.shop(0, 3, 0, 1, 1);
            x.shop(0, 4, 0, 1, 1);
            x.move(0, 0);
            due(0, x.stands(0, 0, 7));
            for (int place = 1; place < 12; place++) {
                x.move(1, place);
                due(place <= near ? 1 : 0, x.stands(0, 0, 7));
                due(0, x.stands(1, 0, 7));
            }
            x.move(2, 1);
            due(near == 11 ? 1 : 0, x.stands(0, 0, 7));
            x.move(1, NONE);
            due(0, x.stands(0, 0, 7));
        }
    }

    private static void pastOverPlaces() {
        about(12, "PAST a PLACE: all who go over it (from where they come in on) and do not end there.");
        x.door(0, 10);
        shopsIn(11);
        for (int place = 0; place < 12; place++) due(place < 11 ? 10 : 0, x.past(place, 0));
        fresh();
        x.door(11, 10);
        shopsIn(0);
        for (int place = 0; place < 12; place++) due(place > 0 ? 10 : 0, x.past(place, 0));
        fresh();
        x.door(4, 10);
        shopsIn(4);
        for (int place = 0; place < 12; place++) due(0, x.past(place, 0));
        shopsIn(5);
        for (int place = 0; place < 12; place++) due(place == 4 ? 5 : 0, x.past(place, 0));
        // the most that can go over a place
        fresh();
        for (int i = 0; i < 4; i++) x.door(0, 9999);
        shopsIn(11);
        due(39996, x.past(10, 0));
    }

    private static void pastNobody() {
        about(12, "PEOPLE of a DOOR in a MONTH go to the SHOPS that are IN then");
        due(0, x.past(0, 0));
        x.door(0, 100);
        shops(1);
        due(0, x.past(0, 0));
        x.months(1);
        x.move(0, 11);
        due(0, x.past(0, 0));
        due(100, x.past(0, 1));
        x.months(1);
        x.move(0, NONE);
        due(100, x.past(0, 1));
        due(0, x.past(0, 2));
    }

    private static void pastRefused() {
        about(12, "PEOPLE PAST a PLACE in a MONTH (0 .. TODAY). BAD.");
        x.door(0, 9);
        shopsIn(11);
        due(9, x.past(0, 0));
        due(0, x.past(11, 0));
        for (int place : new int[] {-1, 12, MIN, MAX}) due(BAD, x.past(place, 0));
        for (int month : new int[] {-1, 1, MIN, MAX}) due(BAD, x.past(0, month));
        x.months(1);
        due(9, x.past(0, 1));
        due(BAD, x.past(0, 2));
    }
}
