import java.util.Arrays;

/** Rent by takings in an arcade of places in a row; the document is ../shared/DOC.md. */
public final class ArcadeRents {
    public static final int BAD = -1000000001, NO = -1000000002, FULL = -1000000003, SPENT = -1000000004, NONE = -1000000005, NOTHING = -1000000011, INDEX = -1000000013, SIZE = -1000000014;

    private static final int PLACES = 12, MOST_DOORS = 4, MOST_SHOPS = 12, MOST_MOVES = 200, MOST_LINES = 100;
    private static final int LAST_MONTH = 120, MOST_MONTHS = 24, MOST_PEOPLE = 9999;
    private static final int LEAST_FEET = 10, MOST_FEET = 999, FIRST_FEET = 100;
    private static final int SHOP = 0, ANCHOR = 1, FOOD = 2, KIOSK = 3, SORTS = 8;
    private static final int MOST_COINS = 99999, MOST_CHARGE = 999999, MOST_RENT = 99999;
    private static final int LOW = 0, HIGH = 1;
    private static final int TAPE = 132, PARTS = 3, BASE = 0, TURN = 1, LEAVE = 2, FAULTS = -100;
    private static final int MOST_TRIES = 50000, MOST_WAITING = 24;

    private final Arcade now = new Arcade();
    private final Arcade image = new Arcade();
    private boolean hasImage;
    private final Reader reader = new Reader();
    private final Sheets sheets = new Sheets();
    private final Crowd crowd = new Crowd(now);
    private final Calc calc = new Calc();
    private final Mix mix = new Mix();
    private final int[] gone = new int[MOST_SHOPS];
    private final int[] waiting = new int[MOST_WAITING];
    private int waits;

    public ArcadeRents() {
    }

    // ---- places, doors, shops

    public int feet(int place, int v) {
        if (!isPlace(place) || !isFeet(v)) {
            return BAD;
        }
        int was = now.feet[place];
        now.feet[place] = v;
        return was;
    }

    public int lay(int sheet) {
        if (!Sheets.isSheet(sheet)) {
            return BAD;
        }
        if (sheets.isMissing(sheet)) {
            return NOTHING;
        }
        int came = 0;
        int both = Math.min(sheets.sizes[sheet], PLACES);
        for (int place = 0; place < both; place++) {
            int v = sheets.rows[sheet][place];
            if (isFeet(v)) {
                now.feet[place] = v;
                came++;
            }
        }
        return came;
    }

    public int door(int place, int people) {
        if (!isPlace(place) || !isPeople(people)) {
            return BAD;
        }
        if (now.doors.many >= MOST_DOORS) {
            return FULL;
        }
        return now.doors.add(place, people);
    }

    public int people(int door, int v) {
        if (!now.doors.has(door) || !isPeople(v)) {
            return BAD;
        }
        int was = now.doors.people[door];
        now.doors.people[door] = v;
        return was;
    }

    public int shop(int kind, int sort, int how, int words, int ask) {
        boolean good = within(kind, SHOP, KIOSK) && within(sort, 0, SORTS - 1)
                && within(how, 0, 99999) && within(words, 1, 1199) && words % 100 != 0
                && within(ask, 1, 999);
        if (!good) {
            return BAD;
        }
        if (now.shops.many >= MOST_SHOPS) {
            return FULL;
        }
        return now.shops.add(kind, sort, how, words, ask);
    }

    public int isOf(int shop, int kind) {
        if (!now.shops.has(shop) || !within(kind, SHOP, KIOSK)) {
            return BAD;
        }
        int own = now.shops.kind[shop];
        boolean is = kind == SHOP || kind == own || kind == FOOD && own == KIOSK;
        return is ? 1 : 0;
    }

    public int move(int shop, int place) {
        if (!now.shops.has(shop) || place != NONE && !isPlace(place)) {
            return BAD;
        }
        crowd.look(now.today);
        int was = crowd.placeOf[shop];
        if (was == place || place != NONE && crowd.shopAt[place] != NONE) {
            return NO;
        }
        if (now.moves.many >= MOST_MOVES) {
            return FULL;
        }
        now.moves.add(shop, now.today, place);
        return was;
    }

    public int months(int n) {
        if (!within(n, 1, MOST_MONTHS) || now.today + n > LAST_MONTH) {
            return BAD;
        }
        now.today += n;
        return now.today;
    }

    public int rule(int which, int v) {
        boolean good = which == LOW && within(v, 0, 100) || which == HIGH && within(v, 100, 999);
        if (!good) {
            return BAD;
        }
        int was = now.rules[which];
        now.rules[which] = v;
        return was;
    }

    public int stands(int shop, int month, int what) {
        if (!now.shops.has(shop) || !isMonth(month) || !within(what, 0, 7)) {
            return BAD;
        }
        crowd.look(month);
        int place = crowd.placeOf[shop];
        if (what == 0) {
            return place;
        }
        if (place == NONE) {
            return NO;
        }
        switch (what) {
            case 1: return crowd.comers[shop];
            case 2: return crowd.past[place];
            case 3: return crowd.foretold(shop);
            case 4: return crowd.others(shop);
            case 5: return crowd.anchors(shop);
            case 6: return crowd.beside(place);
            default: return crowd.rivalNear(shop) ? 1 : 0;
        }
    }

    public int past(int place, int month) {
        if (!isPlace(place) || !isMonth(month)) {
            return BAD;
        }
        crowd.look(month);
        return crowd.past[place];
    }

    // ---- takings, rents

    public int take(int shop, int month, int coins) {
        if (!now.shops.has(shop) || !isMonth(month) || !within(coins, -MOST_COINS, MOST_COINS)) {
            return BAD;
        }
        if (now.lines.many >= MOST_LINES) {
            return FULL;
        }
        return now.lines.add(shop, month, coins, now.today);
    }

    public int withdraw(int line) {
        if (!now.lines.has(line)) {
            return BAD;
        }
        if (now.lines.withdrawn[line] != NONE) {
            return NO;
        }
        now.lines.withdrawn[line] = now.today;
        return 1;
    }

    public int line(int line, int what) {
        if (!now.lines.has(line) || !within(what, 0, 4)) {
            return BAD;
        }
        switch (what) {
            case 0: return now.lines.shop[line];
            case 1: return now.lines.month[line];
            case 2: return now.lines.coins[line];
            case 3: return now.lines.told[line];
            default: return now.lines.withdrawn[line];
        }
    }

    public int takings(int shop, int month, int known) {
        if (!now.shops.has(shop) || !isMonth(month) || !isMonth(known)) {
            return BAD;
        }
        return now.lines.sum(shop, month, known);
    }

    public int beyond(int shop, int month, int known) {
        if (!now.shops.has(shop) || !isMonth(month) || !isMonth(known)) {
            return BAD;
        }
        crowd.look(month);
        if (crowd.placeOf[shop] == NONE) {
            return NO;
        }
        // long: what is foretold times HIGH can be above the greatest int
        long foretold = crowd.foretold(shop);
        long told = now.lines.sum(shop, month, known);
        if (told < foretold * now.rules[LOW] / 100) {
            return -1;
        }
        return told > foretold * now.rules[HIGH] / 100 ? 1 : 0;
    }

    public int feed(int a, int b, int c) {
        if (reader.size + 12 > TAPE) {
            return FULL;
        }
        reader.append(a);
        reader.append(b);
        reader.append(c);
        return reader.size;
    }

    public int trim(int n) {
        if (!within(n, 0, reader.size)) {
            return BAD;
        }
        reader.size = n;
        return n;
    }

    public int lease(int shop) {
        if (!now.shops.has(shop)) {
            // the tape is used up whatever the answer is
            reader.size = 0;
            return BAD;
        }
        int fault = reader.findFault();
        reader.size = 0;
        if (fault != NONE) {
            return FAULTS - fault;
        }
        now.leases.store(shop, reader);
        return reader.leaves;
    }

    public int rent(int shop, int month, int known) {
        if (!now.shops.has(shop) || !isMonth(month) || !isMonth(known)) {
            return BAD;
        }
        crowd.look(month);
        return rentOf(shop, known);
    }

    public int rents(int month, int known) {
        if (!isMonth(month) || !isMonth(known)) {
            return BAD;
        }
        crowd.look(month);
        int all = 0;
        for (int shop = 0; shop < now.shops.many; shop++) {
            all += rentOf(shop, known);
        }
        return all;
    }

    public int charge(int shop, int month, int coins) {
        if (!now.shops.has(shop) || !isMonth(month) || !within(coins, 0, MOST_CHARGE)) {
            return BAD;
        }
        crowd.look(month);
        int all = 0;
        for (int place = 0; place < PLACES; place++) {
            all += crowd.chargedFeet(place);
        }
        int own = crowd.placeOf[shop];
        if (own == NONE || all == 0 || crowd.chargedFeet(own) == 0) {
            return 0;
        }
        int left = coins;
        int ahead = 0;
        for (int place = 0; place < PLACES; place++) {
            int part = crowd.chargedFeet(place);
            left -= coins * part / all;
            if (part > 0 && place < own) {
                ahead++;
            }
        }
        return coins * crowd.chargedFeet(own) / all + (ahead < left ? 1 : 0);
    }

    // ---- falls

    public int fall() {
        crowd.look(now.today);
        int many = letFall();
        if (now.moves.many + many > MOST_MOVES) {
            return FULL;
        }
        for (int i = 0; i < many; i++) {
            now.moves.add(gone[i], now.today, NONE);
            now.left[i] = gone[i];
        }
        now.leavers = many;
        return many;
    }

    public int fallen(int i) {
        if (i < 0) {
            return BAD;
        }
        return i < now.leavers ? now.left[i] : NONE;
    }

    public int without(int shop) {
        if (!now.shops.has(shop)) {
            return BAD;
        }
        crowd.look(now.today);
        if (crowd.placeOf[shop] == NONE) {
            return NO;
        }
        crowd.sendOut(shop);
        return letFall();
    }

    // ---- mixes

    public int broken() {
        crowd.look(now.today);
        int pairs = 0;
        for (int one = 0; one < now.shops.many; one++) {
            for (int other = one + 1; other < now.shops.many; other++) {
                if (crowd.breaks(one, other)) {
                    pairs++;
                }
            }
        }
        return pairs;
    }

    public int mix(int tries) {
        if (!isTries(tries)) {
            return BAD;
        }
        return seek(tries) ? mix.bestWorth : SPENT;
    }

    public int mixed(int tries, int place) {
        if (!isTries(tries) || !isPlace(place)) {
            return BAD;
        }
        return seek(tries) ? mix.best[place] : SPENT;
    }

    public int tell(int v) {
        if (waits >= MOST_WAITING) {
            return FULL;
        }
        waiting[waits] = v;
        waits++;
        return waits;
    }

    public int check() {
        int told = waits;
        waits = 0;
        if (!seek(MOST_TRIES)) {
            return SPENT;
        }
        int right = 0;
        for (int place = 0; place < PLACES; place++) {
            int shop = mix.best[place];
            if (shop == NONE) {
                continue;
            }
            if (right >= told || waiting[right] != place) {
                return 1 + right;
            }
            right++;
            if (right >= told || waiting[right] != shop) {
                return 1 + right;
            }
            right++;
        }
        return right == told ? 0 : 1 + right;
    }

    // ---- images, sheets

    public int keep() {
        image.become(now);
        hasImage = true;
        return now.today;
    }

    public int back() {
        if (!hasImage) {
            return NO;
        }
        now.become(image);
        return now.today;
    }

    public int sheet(int s, int n) {
        if (!Sheets.isSheet(s) || n > Sheets.MOST) {
            return BAD;
        }
        if (n < 0) {
            return SIZE;
        }
        sheets.begin(s, n);
        return n;
    }

    public int mark(int s, int place, int v) {
        if (!Sheets.isSheet(s)) {
            return BAD;
        }
        if (sheets.isMissing(s)) {
            return NOTHING;
        }
        if (!sheets.reaches(s, place, 1)) {
            return INDEX;
        }
        int was = sheets.rows[s][place];
        sheets.rows[s][place] = (short) v;
        return was;
    }

    public int copy(int from, int place, int to, int at, int many) {
        if (!Sheets.isSheet(from) || !Sheets.isSheet(to)) {
            return BAD;
        }
        if (sheets.isMissing(from) || sheets.isMissing(to)) {
            return NOTHING;
        }
        if (!sheets.reaches(from, place, many) || !sheets.reaches(to, at, many)) {
            return INDEX;
        }
        System.arraycopy(sheets.rows[from], place, sheets.rows[to], at, many);
        return many;
    }

    public int count(int what) {
        switch (what) {
            case 0: return now.doors.many;
            case 1: return now.shops.many;
            case 2: return countIn();
            case 3: return now.lines.many;
            case 4: return now.lines.countWithdrawn();
            case 5: return now.leases.countHeld();
            case 6: return now.moves.many;
            case 7: return waits;
            case 8: return reader.size;
            case 9: return now.today;
            default: return BAD;
        }
    }

    private static boolean within(int v, int least, int most) {
        return v >= least && v <= most;
    }

    private static boolean isPlace(int place) {
        return within(place, 0, PLACES - 1);
    }

    private static boolean isFeet(int v) {
        return within(v, LEAST_FEET, MOST_FEET);
    }

    private static boolean isPeople(int v) {
        return within(v, 0, MOST_PEOPLE);
    }

    private static boolean isTries(int tries) {
        return within(tries, 1, MOST_TRIES);
    }

    private boolean isMonth(int month) {
        return within(month, 0, now.today);
    }

    private int countIn() {
        crowd.look(now.today);
        return crowd.in;
    }

    /** By the crowd as it was looked at last. */
    private int rentOf(int shop, int known) {
        if (crowd.placeOf[shop] == NONE || !now.leases.held[shop]) {
            return 0;
        }
        return rentPart(shop, BASE, known) + rentPart(shop, TURN, known);
    }

    private int rentPart(int shop, int part, int known) {
        int coins = calc.work(crowd, shop, part, known);
        return Math.max(0, Math.min(MOST_RENT, coins));
    }

    /** The fall in the crowd alone, so that a refused one changes nothing; who leaves comes to gone. */
    private int letFall() {
        int many = 0;
        for (int round = 0; round < MOST_SHOPS; round++) {
            int shop = firstToLeave();
            if (shop == NONE) {
                break;
            }
            crowd.sendOut(shop);
            gone[many] = shop;
            many++;
        }
        return many;
    }

    private int firstToLeave() {
        for (int shop = 0; shop < now.shops.many; shop++) {
            boolean asked = crowd.placeOf[shop] != NONE && now.leases.held[shop];
            if (asked && calc.work(crowd, shop, LEAVE, now.today) != 0) {
                return shop;
            }
        }
        return NONE;
    }

    private boolean seek(int tries) {
        crowd.look(now.today);
        return mix.search(crowd, tries);
    }

    /** All that an image keeps. */
    private static final class Arcade {
        final int[] feet = new int[PLACES];
        final int[] rules = {50, 200};
        final Doors doors = new Doors();
        final Shops shops = new Shops();
        final Moves moves = new Moves();
        final Lines lines = new Lines();
        final Leases leases = new Leases();
        final int[] left = new int[MOST_SHOPS];
        int leavers;
        int today;

        Arcade() {
            Arrays.fill(feet, FIRST_FEET);
        }

        void become(Arcade other) {
            System.arraycopy(other.feet, 0, feet, 0, PLACES);
            System.arraycopy(other.rules, 0, rules, 0, 2);
            doors.become(other.doors);
            shops.become(other.shops);
            moves.become(other.moves);
            lines.become(other.lines);
            leases.become(other.leases);
            System.arraycopy(other.left, 0, left, 0, MOST_SHOPS);
            leavers = other.leavers;
            today = other.today;
        }
    }

    private static final class Doors {
        final int[] place = new int[MOST_DOORS];
        final int[] people = new int[MOST_DOORS];
        int many;

        boolean has(int door) {
            return door >= 0 && door < many;
        }

        int add(int where, int comers) {
            place[many] = where;
            people[many] = comers;
            many++;
            return many - 1;
        }

        void become(Doors other) {
            System.arraycopy(other.place, 0, place, 0, MOST_DOORS);
            System.arraycopy(other.people, 0, people, 0, MOST_DOORS);
            many = other.many;
        }
    }

    private static final class Shops {
        final int[] kind = new int[MOST_SHOPS];
        final int[] sort = new int[MOST_SHOPS];
        final int[] pull = new int[MOST_SHOPS];
        final int[] lure = new int[MOST_SHOPS];
        final int[] near = new int[MOST_SHOPS];
        final int[] spend = new int[MOST_SHOPS];
        final int[] ask = new int[MOST_SHOPS];
        int many;

        boolean has(int shop) {
            return shop >= 0 && shop < many;
        }

        int add(int itsKind, int itsSort, int how, int words, int itsAsk) {
            kind[many] = itsKind;
            sort[many] = itsSort;
            pull[many] = how / 1000;
            lure[many] = how % 1000;
            near[many] = words / 100;
            spend[many] = words % 100;
            ask[many] = itsAsk;
            many++;
            return many - 1;
        }

        /** Whether two shops so many places apart break a word: the NEAR of one of them is enough. */
        boolean rivals(int one, int other, int apart) {
            return sort[one] == sort[other] && apart <= Math.max(near[one], near[other]);
        }

        void become(Shops other) {
            System.arraycopy(other.kind, 0, kind, 0, MOST_SHOPS);
            System.arraycopy(other.sort, 0, sort, 0, MOST_SHOPS);
            System.arraycopy(other.pull, 0, pull, 0, MOST_SHOPS);
            System.arraycopy(other.lure, 0, lure, 0, MOST_SHOPS);
            System.arraycopy(other.near, 0, near, 0, MOST_SHOPS);
            System.arraycopy(other.spend, 0, spend, 0, MOST_SHOPS);
            System.arraycopy(other.ask, 0, ask, 0, MOST_SHOPS);
            many = other.many;
        }
    }

    /** Moves in the order in which they were told, so that months never go down along the row. */
    private static final class Moves {
        final int[] shop = new int[MOST_MOVES];
        final int[] month = new int[MOST_MOVES];
        final int[] place = new int[MOST_MOVES];
        int many;

        void add(int who, int when, int where) {
            shop[many] = who;
            month[many] = when;
            place[many] = where;
            many++;
        }

        void become(Moves other) {
            System.arraycopy(other.shop, 0, shop, 0, MOST_MOVES);
            System.arraycopy(other.month, 0, month, 0, MOST_MOVES);
            System.arraycopy(other.place, 0, place, 0, MOST_MOVES);
            many = other.many;
        }
    }

    private static final class Lines {
        final int[] shop = new int[MOST_LINES];
        final int[] month = new int[MOST_LINES];
        final int[] coins = new int[MOST_LINES];
        final int[] told = new int[MOST_LINES];
        final int[] withdrawn = new int[MOST_LINES];
        int many;

        boolean has(int line) {
            return line >= 0 && line < many;
        }

        int add(int who, int when, int howMuch, int today) {
            shop[many] = who;
            month[many] = when;
            coins[many] = howMuch;
            told[many] = today;
            withdrawn[many] = NONE;
            many++;
            return many - 1;
        }

        int sum(int who, int when, int known) {
            int all = 0;
            for (int i = 0; i < many; i++) {
                if (shop[i] == who && month[i] == when && counts(i, known)) {
                    all += coins[i];
                }
            }
            return Math.max(0, all);
        }

        private boolean counts(int line, int known) {
            return told[line] <= known && (withdrawn[line] == NONE || withdrawn[line] > known);
        }

        int countWithdrawn() {
            int all = 0;
            for (int i = 0; i < many; i++) {
                if (withdrawn[i] != NONE) {
                    all++;
                }
            }
            return all;
        }

        void become(Lines other) {
            System.arraycopy(other.shop, 0, shop, 0, MOST_LINES);
            System.arraycopy(other.month, 0, month, 0, MOST_LINES);
            System.arraycopy(other.coins, 0, coins, 0, MOST_LINES);
            System.arraycopy(other.told, 0, told, 0, MOST_LINES);
            System.arraycopy(other.withdrawn, 0, withdrawn, 0, MOST_LINES);
            many = other.many;
        }
    }

    /**
     * Each lease as a row of steps, signs behind what they join: a number stands for itself,
     * a name or a sign is 0 less its byte. Where each part ends stands beside it.
     */
    private static final class Leases {
        final boolean[] held = new boolean[MOST_SHOPS];
        final int[][] steps = new int[MOST_SHOPS][TAPE];
        final int[][] ends = new int[MOST_SHOPS][PARTS];

        void store(int shop, Reader reader) {
            System.arraycopy(reader.steps, 0, steps[shop], 0, TAPE);
            System.arraycopy(reader.ends, 0, ends[shop], 0, PARTS);
            held[shop] = true;
        }

        int countHeld() {
            int all = 0;
            for (int shop = 0; shop < MOST_SHOPS; shop++) {
                if (held[shop]) {
                    all++;
                }
            }
            return all;
        }

        void become(Leases other) {
            for (int shop = 0; shop < MOST_SHOPS; shop++) {
                held[shop] = other.held[shop];
                System.arraycopy(other.steps[shop], 0, steps[shop], 0, TAPE);
                System.arraycopy(other.ends[shop], 0, ends[shop], 0, PARTS);
            }
        }
    }

    /** Who stands where in one month, and the people who come there. */
    private static final class Crowd {
        final Arcade arcade;
        int month;
        int in;
        final int[] placeOf = new int[MOST_SHOPS];
        final int[] shopAt = new int[PLACES];
        final int[] comers = new int[MOST_SHOPS];
        final int[] past = new int[PLACES];

        Crowd(Arcade arcade) {
            this.arcade = arcade;
        }

        void look(int when) {
            month = when;
            Arrays.fill(placeOf, NONE);
            Moves moves = arcade.moves;
            for (int i = 0; i < moves.many && moves.month[i] <= when; i++) {
                placeOf[moves.shop[i]] = moves.place[i];
            }
            settle();
        }

        /** In this crowd only: nothing is told of it. */
        void sendOut(int shop) {
            placeOf[shop] = NONE;
            settle();
        }

        private void settle() {
            Arrays.fill(shopAt, NONE);
            Arrays.fill(comers, 0);
            Arrays.fill(past, 0);
            in = 0;
            int pulls = 0;
            for (int shop = 0; shop < arcade.shops.many; shop++) {
                int place = placeOf[shop];
                if (place != NONE) {
                    shopAt[place] = shop;
                    in++;
                    pulls += arcade.shops.pull[shop];
                }
            }
            if (pulls == 0) {
                return;
            }
            for (int door = 0; door < arcade.doors.many; door++) {
                for (int place = 0; place < PLACES; place++) {
                    walk(door, place, pulls);
                }
            }
        }

        private void walk(int door, int to, int pulls) {
            int shop = shopAt[to];
            if (shop == NONE || pulls == 0) {
                return;
            }
            int people = arcade.doors.people[door] * arcade.shops.pull[shop] / pulls;
            int from = arcade.doors.place[door];
            comers[shop] += people;
            for (int place = 0; place < PLACES; place++) {
                boolean over = from <= place && place < to || to < place && place <= from;
                if (over) {
                    past[place] += people;
                }
            }
        }

        int foretold(int shop) {
            int place = placeOf[shop];
            if (place == NONE) {
                return 0;
            }
            int lured = past[place] * arcade.shops.lure[shop] / 1000;
            return (comers[shop] + lured) * arcade.shops.spend[shop];
        }

        int others(int shop) {
            return placeOf[shop] == NONE ? in : in - 1;
        }

        int anchors(int shop) {
            int all = 0;
            for (int other = 0; other < arcade.shops.many; other++) {
                boolean counts = other != shop && placeOf[other] != NONE;
                if (counts && arcade.shops.kind[other] == ANCHOR) {
                    all++;
                }
            }
            return all;
        }

        int beside(int place) {
            int all = 0;
            if (place > 0 && shopAt[place - 1] != NONE) {
                all++;
            }
            if (place < PLACES - 1 && shopAt[place + 1] != NONE) {
                all++;
            }
            return all;
        }

        /** By the NEAR of the shop itself, not by its rival's. */
        boolean rivalNear(int shop) {
            int own = placeOf[shop];
            for (int place = 0; place < PLACES; place++) {
                int other = shopAt[place];
                boolean rival = other != NONE && other != shop
                        && arcade.shops.sort[other] == arcade.shops.sort[shop];
                if (rival && Math.abs(place - own) <= arcade.shops.near[shop]) {
                    return true;
                }
            }
            return false;
        }

        boolean breaks(int one, int other) {
            if (placeOf[one] == NONE || placeOf[other] == NONE) {
                return false;
            }
            int apart = Math.abs(placeOf[one] - placeOf[other]);
            return arcade.shops.rivals(one, other, apart);
        }

        /** The feet by which a place is charged: 0, if nobody pays there. */
        int chargedFeet(int place) {
            int shop = shopAt[place];
            if (shop == NONE || arcade.shops.kind[shop] == KIOSK) {
                return 0;
            }
            return arcade.feet[place];
        }
    }

    /** The tape, and what reads it as the text of a lease. */
    private static final class Reader {
        private static final int END = -1, WRONG = -2, NUMBER = -3, NAME = -4, FIRST_WORD = -5;
        private static final int LOOSEST = 0, TEST = 2, TIGHTEST = 4, DEEPEST = 8, DIGITS = 5;
        private static final String NAMES = "tfaovknmxc";

        int size;
        final int[] steps = new int[TAPE];
        final int[] ends = new int[PARTS];
        int leaves;
        private final byte[] tape = new byte[TAPE];
        private int many;
        private int at;
        private int token;
        private int start;
        private int value;

        void append(int four) {
            for (int shift = 24; shift >= 0; shift -= 8) {
                if (size < TAPE) {
                    tape[size] = (byte) (four >> shift);
                    size++;
                }
            }
        }

        /** The place of the fault; NONE: steps, ends and leaves are those of the text. */
        int findFault() {
            at = 0;
            many = 0;
            leaves = 0;
            token = END;
            advance();
            for (int part = 0; part < PARTS; part++) {
                if (token != FIRST_WORD - part) {
                    return start;
                }
                advance();
                if (!expression(LOOSEST, 0, 0)) {
                    return start;
                }
                ends[part] = many;
            }
            return token == END ? NONE : start;
        }

        /** False: the text can't go on with the token that is read now. */
        private boolean expression(int level, int brackets, int bangs) {
            if (level > TIGHTEST) {
                return part(brackets, bangs);
            }
            if (!expression(level + 1, brackets, bangs)) {
                return false;
            }
            int most = level == TEST ? 1 : TAPE;
            for (int i = 0; i < most && levelOf(token) == level; i++) {
                int sign = token;
                advance();
                if (!expression(level + 1, brackets, bangs)) {
                    return false;
                }
                emit(-sign);
            }
            return true;
        }

        private boolean part(int brackets, int bangs) {
            if (token == NUMBER || token == NAME) {
                emit(value);
                leaves++;
                advance();
                return true;
            }
            if (token == '!' && bangs < DEEPEST) {
                advance();
                if (!part(brackets, bangs + 1)) {
                    return false;
                }
                emit(-'!');
                return true;
            }
            if (token == '(' && brackets < DEEPEST) {
                advance();
                if (!expression(LOOSEST, brackets + 1, bangs) || token != ')') {
                    return false;
                }
                advance();
                return true;
            }
            return false;
        }

        private static int levelOf(int sign) {
            switch (sign) {
                case '|': return LOOSEST;
                case '&': return 1;
                case '<':
                case '=':
                case '>': return TEST;
                case '+':
                case '-': return 3;
                case '*':
                case '/': return TIGHTEST;
                default: return -1;
            }
        }

        private void emit(int step) {
            if (many < TAPE) {
                steps[many] = step;
                many++;
            }
        }

        private void advance() {
            int behind = at;
            boolean behindWord = token <= NUMBER;
            while (at < size && tape[at] == ' ') {
                at++;
            }
            start = at;
            if (at >= size) {
                token = END;
                return;
            }
            int first = tape[at] & 255;
            boolean digits = isDigit(first);
            if (!digits && !isLetter(first)) {
                at++;
                token = first;
                return;
            }
            while (at < size && (digits ? isDigit(tape[at]) : isLetter(tape[at]))) {
                at++;
            }
            boolean tight = behindWord && start == behind;
            token = tight ? WRONG : digits ? numberToken() : lettersToken(first);
        }

        private int numberToken() {
            if (at - start > DIGITS) {
                return WRONG;
            }
            value = 0;
            for (int i = start; i < at; i++) {
                value = value * 10 + tape[i] - '0';
            }
            return NUMBER;
        }

        private int lettersToken(int first) {
            if (at - start == 1 && NAMES.indexOf((char) first) >= 0) {
                value = -first;
                return NAME;
            }
            if (reads("base")) {
                return FIRST_WORD - BASE;
            }
            if (reads("turn")) {
                return FIRST_WORD - TURN;
            }
            return reads("leave") ? FIRST_WORD - LEAVE : WRONG;
        }

        private boolean reads(String word) {
            if (at - start != word.length()) {
                return false;
            }
            for (int i = 0; i < word.length(); i++) {
                if (tape[start + i] != word.charAt(i)) {
                    return false;
                }
            }
            return true;
        }

        private static boolean isDigit(int sign) {
            return sign >= '0' && sign <= '9';
        }

        private static boolean isLetter(int sign) {
            return sign >= 'a' && sign <= 'z';
        }
    }

    /** Works out the parts of leases. */
    private static final class Calc {
        private final int[] stack = new int[TAPE];
        private int top;

        /** Of a shop that is in the crowd and holds a lease. */
        int work(Crowd crowd, int shop, int part, int known) {
            Leases leases = crowd.arcade.leases;
            int from = part == BASE ? 0 : leases.ends[shop][part - 1];
            int to = leases.ends[shop][part];
            top = 0;
            for (int i = from; i < to; i++) {
                int step = leases.steps[shop][i];
                if (step >= 0) {
                    push(step);
                } else if (step <= -'a' && step >= -'z') {
                    push(valueOf(-step, crowd, shop, known));
                } else {
                    apply(-step);
                }
            }
            return top > 0 ? stack[top - 1] : 0;
        }

        private void push(int v) {
            if (top < TAPE) {
                stack[top] = v;
                top++;
            }
        }

        private void apply(int sign) {
            if (sign == '!' && top >= 1) {
                stack[top - 1] = stack[top - 1] == 0 ? 1 : 0;
            } else if (top >= 2) {
                top--;
                stack[top - 1] = join(sign, stack[top - 1], stack[top]);
            }
        }

        private static int join(int sign, int a, int b) {
            switch (sign) {
                case '+': return a + b;
                case '-': return a - b;
                case '*': return a * b;
                case '/': return b == 0 ? 0 : a / b;
                case '<': return a < b ? 1 : 0;
                case '=': return a == b ? 1 : 0;
                case '>': return a > b ? 1 : 0;
                case '&': return a != 0 && b != 0 ? 1 : 0;
                default: return a != 0 || b != 0 ? 1 : 0;
            }
        }

        private static int valueOf(int name, Crowd crowd, int shop, int known) {
            int place = crowd.placeOf[shop];
            if (place == NONE) {
                return 0;
            }
            switch (name) {
                case 't': return crowd.arcade.lines.sum(shop, crowd.month, known);
                case 'f': return crowd.arcade.feet[place];
                case 'a': return crowd.anchors(shop);
                case 'o': return crowd.others(shop);
                case 'v': return crowd.past[place];
                case 'k': return crowd.arcade.shops.kind[shop];
                case 'n': return crowd.beside(place);
                case 'm': return crowd.month;
                case 'x': return crowd.rivalNear(shop) ? 1 : 0;
                default: return crowd.comers[shop];
            }
        }
    }

    /** Seeks the mix. A set of shops is an int with one bit for each. */
    private static final class Mix {
        final int[] best = new int[PLACES];
        int bestWorth;
        private int bestMany;
        private final int[] put = new int[PLACES];
        private final int[][] worth = new int[MOST_SHOPS][PLACES];
        private final int[][] rivals = new int[MOST_SHOPS][PLACES];
        private final int[][] fit = new int[MOST_SHOPS + 1][PLACES];
        private int tries;
        private int most;

        /** False: more than so many tries would be done. */
        boolean search(Crowd crowd, int mostTries) {
            most = mostTries;
            tries = 0;
            bestWorth = -1;
            bestMany = 0;
            Arrays.fill(put, NONE);
            for (int shop = 0; shop < crowd.arcade.shops.many; shop++) {
                prepare(crowd.arcade, shop);
            }
            for (int place = 0; place < PLACES; place++) {
                fit[0][place] = fitAtFirst(crowd, place);
            }
            return extend(0, 0, 0);
        }

        private void prepare(Arcade arcade, int shop) {
            for (int place = 0; place < PLACES; place++) {
                worth[shop][place] = arcade.shops.ask[shop] * arcade.feet[place] / 100;
            }
            for (int apart = 0; apart < PLACES; apart++) {
                int set = 0;
                for (int other = 0; other < arcade.shops.many; other++) {
                    if (arcade.shops.rivals(shop, other, apart)) {
                        set |= 1 << other;
                    }
                }
                rivals[shop][apart] = set;
            }
        }

        private int fitAtFirst(Crowd crowd, int place) {
            if (crowd.shopAt[place] != NONE) {
                return 0;
            }
            int set = 0;
            for (int shop = 0; shop < crowd.arcade.shops.many; shop++) {
                if (crowd.placeOf[shop] == NONE) {
                    set |= 1 << shop;
                }
            }
            for (int shop = 0; shop < crowd.arcade.shops.many; shop++) {
                int where = crowd.placeOf[shop];
                if (where != NONE) {
                    set &= ~rivals[shop][Math.abs(where - place)];
                }
            }
            return set;
        }

        /**
         * Later places come first for the next shop: all that leave an earlier place to nobody
         * stand ahead of those that do not, so rows are met in the order of the document, and
         * the first of equal ones is kept.
         */
        private boolean extend(int many, int from, int sum) {
            compare(many, sum);
            if (many >= MOST_SHOPS) {
                return true;
            }
            for (int place = PLACES - 1; place >= from; place--) {
                int set = fit[many][place];
                for (int shop = 0; shop < MOST_SHOPS && set >> shop != 0; shop++) {
                    if ((set >> shop & 1) == 0) {
                        continue;
                    }
                    if (tries >= most) {
                        return false;
                    }
                    tries++;
                    put[place] = shop;
                    narrow(many, place, shop);
                    boolean ended = extend(many + 1, place + 1, sum + worth[shop][place]);
                    put[place] = NONE;
                    if (!ended) {
                        return false;
                    }
                }
            }
            return true;
        }

        private void narrow(int many, int place, int shop) {
            for (int later = place + 1; later < PLACES; later++) {
                int out = rivals[shop][later - place] | 1 << shop;
                fit[many + 1][later] = fit[many][later] & ~out;
            }
        }

        private void compare(int many, int sum) {
            if (sum > bestWorth || sum == bestWorth && many < bestMany) {
                bestWorth = sum;
                bestMany = many;
                System.arraycopy(put, 0, best, 0, PLACES);
            }
        }
    }

    private static final class Sheets {
        static final int MOST = 16;
        private static final int MISSING = -1;
        final short[][] rows = new short[2][MOST];
        final int[] sizes = {MISSING, MISSING};

        static boolean isSheet(int s) {
            return s == 0 || s == 1;
        }

        boolean isMissing(int s) {
            return sizes[s] == MISSING;
        }

        void begin(int s, int n) {
            Arrays.fill(rows[s], (short) 0);
            sizes[s] = n;
        }

        /** Asked by what is left, since place and many together could wrap. */
        boolean reaches(int s, int place, int many) {
            return place >= 0 && many >= 0 && place <= sizes[s] && many <= sizes[s] - place;
        }
    }
}
