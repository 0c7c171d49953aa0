/** A street of up to eight houses, its feasts and years, and the rules by which they go. */
public final class StreetTillTen {
    public static final int NONE = -1, BAD = -2, STATE = -3, FULL = -4;
    public static final long NO = -4611686018427387904L;

    private static final int NOTHING = -11, OUTSIDE = -12, UNLIKE = -13, NEGATIVE = -14;

    private static final int MOST_HOUSES = 8, MOST_TEXTS = 6, ALL_SHEETS = 4, ALL_TABLES = 4;
    private static final int ALL_KINDS = 6, ALL_NUMBERS = 10, ALL_SORTS = 3;
    private static final int LAST_YEAR = 999, MOST_LIMIT = 99, MOST_STRENGTH = 99;
    private static final int MOST_YEARS = 20, MOST_FRIENDS = 28, MOST_SPLIT_YEARS = 2;
    private static final int MOST_SEEDS = 20, SEED_YEARS = 3;
    private static final int MOST_ITEMS = 40, TOLD_TO_KNOW = 20, WAY_OF_STRANGERS = 9;
    private static final int FAULT_BASE = -100, LAST_BYTE = 255;

    private static final int LOUD = 1, OLD = 2, BAND = 3, WALLED = 4, BABY = 5;
    private static final int[] KIND_ABOVE = {-1, 0, 0, 1, 2, 0};

    private static final int SET_YEAR = 0, SET_LIMIT = 1, SET_NUMBER = 2, SET_TABLE = 3;
    private static final int FIRST_STRENGTH = 10;
    private static final int[] LEAST_SETTING = {0, 1, 0, -1};
    private static final int[] MOST_SETTING = {999, 99, 9, 3};

    private static final int TELLS_OTHERWISE = 0, TELLS_KINDS = 1, TELLS_NUMBERS = 2;
    private static final int TELLS_TABLES = 3, TELLS_TEXTS = 4, TELLS_LIMITS = 5, TELLS_LEAST = 6;

    private static final String FIRST_TEXT = "meets 5 ; fades 2 ; sounds seats ;";

    private final Tape tape = new Tape();
    private final Reader reader;
    private final Text[] texts = new Text[MOST_TEXTS];
    private int textCount;
    private final Street now;
    private final Street thought;
    private final Street kept;
    private boolean hasImage;
    private final Circle circle = new Circle();
    private final Sheet[] sheets = new Sheet[ALL_SHEETS];

    public StreetTillTen() {
        for (int i = 0; i < MOST_TEXTS; i++) {
            texts[i] = new Text(i);
        }
        for (int i = 0; i < ALL_SHEETS; i++) {
            sheets[i] = new Sheet();
        }
        for (int i = 0; i < FIRST_TEXT.length(); i++) {
            tape.put(FIRST_TEXT.charAt(i));
        }
        reader = new Reader(tape, texts[0]);
        reader.readInto(texts[0]);
        tape.empty();
        textCount = 1;
        now = new Street(texts[0]);
        thought = new Street(texts[0]);
        kept = new Street(texts[0]);
    }

    // ---- houses

    public int set(int what, int of, int v) {
        if (what < SET_YEAR || what > SET_TABLE) {
            return BAD;
        }
        if (what >= SET_NUMBER && !isHouse(of)) {
            return BAD;
        }
        if (v < LEAST_SETTING[what] || v > MOST_SETTING[what]) {
            return BAD;
        }
        int was = setting(what, of);
        switch (what) {
            case SET_YEAR: now.year = v; break;
            case SET_LIMIT: now.limit = v; break;
            case SET_NUMBER: now.number[of] = v; break;
            default: now.table[of] = v; break;
        }
        return was;
    }

    public int house(int kind, int number) {
        return settle(kind, number);
    }

    public int bind(int one, int other, int v) {
        if (!isTwo(one, other) || v < 0 || v > MOST_STRENGTH) {
            return BAD;
        }
        int was = now.strength[one][other];
        now.tie(one, other, v);
        return was;
    }

    public int told(int of, int what) {
        if (what == SET_YEAR || what == SET_LIMIT) {
            return setting(what, of);
        }
        if (!isHouse(of)) {
            return BAD;
        }
        switch (what) {
            case SET_NUMBER: case SET_TABLE: return setting(what, of);
            case 4: return now.kind[of];
            case 5: return now.acquaintances(of);
            case 6: return now.seatsAt(now.table[of]);
            case 7: return now.sounds(of);
            default: break;
        }
        int other = what - FIRST_STRENGTH;
        return isHouse(other) ? now.strength[of][other] : BAD;
    }

    // ---- texts

    public int feed(int letter) {
        if (letter < 0 || letter > LAST_BYTE) {
            return BAD;
        }
        return tape.put(letter) ? tape.size : FULL;
    }

    public int text() {
        if (textCount >= MOST_TEXTS) {
            return FULL;
        }
        int fault = reader.readInto(texts[textCount]);
        tape.empty();
        if (fault != NONE) {
            return FAULT_BASE - fault;
        }
        textCount++;
        return textCount - 1;
    }

    public int force(int text) {
        if (text < 0 || text >= textCount) {
            return BAD;
        }
        int was = now.rule.place;
        now.rule = texts[text];
        return was;
    }

    // ---- feasts, years

    public int asks(int one, int other, int what) {
        if (!isTwo(one, other) || !isEither(what)) {
            return BAD;
        }
        return what == 0 ? now.meets(one, other) : now.forgets(one, other);
    }

    public int feast() {
        now.holdFeast();
        return now.friends();
    }

    public int year() {
        if (now.year >= LAST_YEAR) {
            return STATE;
        }
        now.endYear();
        return now.friends();
    }

    public int street(int what) {
        if (what < 0 || what > 5) {
            return BAD;
        }
        return figure(now, what);
    }

    public int way(int one, int other) {
        if (!isHouse(one) || !isHouse(other)) {
            return BAD;
        }
        circle.see(now);
        return circle.distance(one, other);
    }

    public int run(int n, int what) {
        if (!isYears(n) || what < 0 || what > 4) {
            return BAD;
        }
        thought.become(now);
        thought.pass(n);
        return figure(thought, what);
    }

    public int takes(int k) {
        if (!isFriends(k)) {
            return BAD;
        }
        thought.become(now);
        int friends = thought.friends();
        int years = 0;
        while (years < MOST_YEARS && friends < k) {
            friends = thought.pass(1);
            years++;
        }
        return friends >= k ? years : NONE;
    }

    // ---- what would be best

    public int best(int house, int n, int what) {
        if (!isHouse(house) || !isYears(n) || !isEither(what)) {
            return BAD;
        }
        int best = NONE;
        int most = NONE;
        for (int table = 0; table < ALL_TABLES; table++) {
            thought.become(now);
            thought.table[house] = table;
            int friends = thought.pass(n);
            if (friends > most) {
                most = friends;
                best = table;
            }
        }
        return what == 0 ? best : most;
    }

    public int change(int n, int what) {
        if (!isYears(n) || !isEither(what)) {
            return BAD;
        }
        thought.become(now);
        int best = NONE;
        int most = thought.pass(n);
        for (int one = 0; one < now.count; one++) {
            for (int other = one + 1; other < now.count; other++) {
                if (!canChange(one, other)) {
                    continue;
                }
                thought.become(now);
                thought.table[one] = now.table[other];
                thought.table[other] = now.table[one];
                int friends = thought.pass(n);
                if (friends > most) {
                    most = friends;
                    best = 10 * one + other;
                }
            }
        }
        return what == 0 ? best : most;
    }

    public int split(int n, int what) {
        if (n < 0 || n > MOST_SPLIT_YEARS || !isEither(what)) {
            return BAD;
        }
        int best = 0;
        int most = NONE;
        // With the last HOUSE at TABLE 1 each way mirrors one of fewer bits, which is as good: they are left out.
        int ways = now.count > 0 ? 1 << (now.count - 1) : 1;
        for (int bits = 0; bits < ways; bits++) {
            thought.become(now);
            for (int house = 0; house < now.count; house++) {
                thought.table[house] = bits >> house & 1;
            }
            int friends = thought.pass(n);
            if (friends > most) {
                most = friends;
                best = bits;
            }
        }
        return what == 0 ? best : most;
    }

    public int missed(int what) {
        if (!isEither(what)) {
            return BAD;
        }
        circle.see(now);
        int missed = NONE;
        int most = NONE;
        for (int house = 0; house < now.count; house++) {
            int companies = circle.companies(circle.everyone() & ~(1 << house));
            if (companies > most) {
                most = companies;
                missed = house;
            }
        }
        return what == 0 ? missed : most;
    }

    public int match(int what) {
        if (!isEither(what)) {
            return BAD;
        }
        circle.see(now);
        int match = NONE;
        int least = circle.longestWay(WAY_OF_STRANGERS);
        for (int one = 0; one < now.count; one++) {
            for (int other = one + 1; other < now.count; other++) {
                if (now.knows(one, other)) {
                    continue;
                }
                circle.turn(one, other);
                int longest = circle.longestWay(WAY_OF_STRANGERS);
                circle.turn(one, other);
                if (longest < least) {
                    least = longest;
                    match = 10 * one + other;
                }
            }
        }
        return what == 0 ? match : least;
    }

    // ---- friendships that were told

    public int tells(int sheet, int house, int what) {
        if (!isSheet(sheet) || !isHouse(house) || what < TELLS_OTHERWISE || what > TELLS_LEAST) {
            return BAD;
        }
        Sheet told = sheets[sheet];
        if (told.isMissing()) {
            return NOTHING;
        }
        if (told.size != now.count) {
            return BAD;
        }
        switch (what) {
            case TELLS_OTHERWISE: return otherwise(told, house);
            case TELLS_LIMITS: return limits(told, house);
            case TELLS_LEAST: return leastLimit(told, house);
            default: return possible(told, house, what);
        }
    }

    public int film(int sheet, int house) {
        if (!isSheet(sheet) || !isHouse(house)) {
            return BAD;
        }
        thought.become(now);
        thought.holdFeast();
        Sheet film = sheets[sheet];
        film.lay(Sheet.BYTES, now.count);
        for (int other = 0; other < now.count; other++) {
            film.put(other, thought.strength[house][other]);
        }
        return now.count;
    }

    public int drawn(int seed, int n) {
        if (!isYears(n)) {
            return BAD;
        }
        return friendsDrawn(seed, n);
    }

    public long chance(int seed, int m, int k, int part) {
        if (m < 1 || m > MOST_SEEDS || !isFriends(k) || !isEither(part)) {
            return NO;
        }
        int above = 0;
        for (int i = 0; i < m; i++) {
            if (friendsDrawn(seed + i, SEED_YEARS) >= k) {
                above++;
            }
        }
        int common = commonDivisor(above, m);
        return (part == 0 ? above : m) / common;
    }

    public int image() {
        kept.become(now);
        hasImage = true;
        return now.count;
    }

    public int back() {
        if (!hasImage) {
            return STATE;
        }
        now.become(kept);
        return now.count;
    }

    public int count(int what) {
        switch (what) {
            case 0: return now.count;
            case 1: return now.seated();
            case 2: return now.year;
            case 3: return textCount;
            case 4: return tape.size;
            case 5: return now.rule.place;
            default: return BAD;
        }
    }

    // ---- the host

    public int sheet(int sheet, int sort, int n) {
        if (!isSheet(sheet) || sort != NONE && !isSort(sort)) {
            return BAD;
        }
        if (sort == NONE) {
            sheets[sheet].lay(NONE, 0);
            return 1;
        }
        if (n > MOST_ITEMS) {
            return BAD;
        }
        if (n < 0) {
            return NEGATIVE;
        }
        sheets[sheet].lay(sort, n);
        return 1;
    }

    public int cell(int sheet, int i, int v) {
        if (!isSheet(sheet)) {
            return BAD;
        }
        Sheet row = sheets[sheet];
        if (row.isMissing()) {
            return NOTHING;
        }
        if (!row.holds(i, 1)) {
            return OUTSIDE;
        }
        row.put(i, v);
        return 1;
    }

    public int copy(int sheet, int i, int other, int j, int n) {
        if (!isSheet(sheet) || !isSheet(other)) {
            return BAD;
        }
        Sheet source = sheets[sheet];
        Sheet target = sheets[other];
        if (source.isMissing() || target.isMissing()) {
            return NOTHING;
        }
        if (source.sort != target.sort) {
            return UNLIKE;
        }
        if (!source.holds(i, n) || !target.holds(j, n)) {
            return OUTSIDE;
        }
        System.arraycopy(source.items, i, target.items, j, n);
        return n;
    }

    public int houses(int sheet, int sort, int from, int n) {
        if (!isSheet(sheet) || !isSort(sort) || n < 0 || n > MOST_HOUSES) {
            return BAD;
        }
        Sheet row = sheets[sheet];
        // A missing SHEET passes for one of any sort, as the document puts -13 ahead of -11.
        if (!row.isMissing() && row.sort != sort) {
            return UNLIKE;
        }
        if (row.isMissing()) {
            return NOTHING;
        }
        int came = 0;
        for (int k = 0; k < n; k++) {
            // The sum can't pass an int's end: the first round refuses a from that is no place.
            int at = from + 2 * k;
            if (!row.holds(at, 2)) {
                return OUTSIDE;
            }
            if (settle(row.items[at], row.items[at + 1]) >= 0) {
                came++;
            }
        }
        return came;
    }

    public int taken(int house, int k) {
        if (k < 0 || k >= ALL_KINDS) {
            return BAD;
        }
        if (!isHouse(house)) {
            return NOTHING;
        }
        return isUnder(now.kind[house], k) ? now.number[house] : UNLIKE;
    }

    // ---- what the calls share

    private boolean isHouse(int house) {
        return house >= 0 && house < now.count;
    }

    private boolean isTwo(int one, int other) {
        return isHouse(one) && isHouse(other) && one != other;
    }

    private static boolean isSheet(int sheet) {
        return sheet >= 0 && sheet < ALL_SHEETS;
    }

    private static boolean isSort(int sort) {
        return sort >= 0 && sort < ALL_SORTS;
    }

    private static boolean isYears(int n) {
        return n >= 0 && n <= MOST_YEARS;
    }

    private static boolean isFriends(int k) {
        return k >= 0 && k <= MOST_FRIENDS;
    }

    private static boolean isEither(int what) {
        return what == 0 || what == 1;
    }

    private static boolean isUnder(int kind, int above) {
        int at = kind;
        for (int i = 0; i < ALL_KINDS && at >= 0 && at < ALL_KINDS; i++) {
            if (at == above) {
                return true;
            }
            at = KIND_ABOVE[at];
        }
        return false;
    }

    private int setting(int what, int of) {
        switch (what) {
            case SET_YEAR: return now.year;
            case SET_LIMIT: return now.limit;
            case SET_NUMBER: return now.number[of];
            default: return now.table[of];
        }
    }

    private int settle(int kind, int number) {
        if (kind < 0 || kind >= ALL_KINDS || number < 0 || number >= ALL_NUMBERS) {
            return BAD;
        }
        if (now.count >= MOST_HOUSES) {
            return FULL;
        }
        now.add(kind, number);
        return now.count - 1;
    }

    private int figure(Street street, int what) {
        circle.see(street);
        switch (what) {
            case 0: return street.friends();
            case 1: return circle.companies(circle.everyone());
            case 2: return circle.largestCompany();
            case 3: return street.allStrength();
            case 4: return circle.longestWay(0);
            default: return street.quietTable();
        }
    }

    private boolean canChange(int one, int other) {
        int table = now.table[one];
        int otherTable = now.table[other];
        return table != NONE && otherTable != NONE && table != otherTable;
    }

    private int friendsDrawn(int seed, int years) {
        thought.become(now);
        int z = seed;
        for (int house = 0; house < now.count; house++) {
            z = z * 1103515245 + 12345;
            thought.table[house] = (z >>> 9) % ALL_TABLES;
        }
        return thought.pass(years);
    }

    /** At least 1, so that it may divide. */
    private static int commonDivisor(int above, int below) {
        int divisor = below;
        int rest = above;
        for (int i = 0; i < MOST_SEEDS && rest > 0; i++) {
            int next = divisor % rest;
            divisor = rest;
            rest = next;
        }
        return Math.max(1, divisor);
    }

    private int otherwise(Sheet told, int house) {
        thought.become(now);
        thought.holdFeast();
        return told.unlikeItems(thought.strength[house]);
    }

    private int possible(Sheet told, int house, int what) {
        int bits = 0;
        int choices = choices(what);
        for (int choice = 0; choice < choices; choice++) {
            thought.become(now);
            suppose(house, what, choice);
            thought.holdFeast();
            if (told.unlikeItems(thought.strength[house]) == 0) {
                bits |= 1 << choice;
            }
        }
        return bits;
    }

    private int choices(int what) {
        switch (what) {
            case TELLS_KINDS: return ALL_KINDS;
            case TELLS_NUMBERS: return ALL_NUMBERS;
            case TELLS_TABLES: return ALL_TABLES;
            default: return textCount;
        }
    }

    private void suppose(int house, int what, int choice) {
        switch (what) {
            case TELLS_KINDS: thought.kind[house] = choice; break;
            case TELLS_NUMBERS: thought.number[house] = choice; break;
            case TELLS_TABLES: thought.table[house] = choice; break;
            default: thought.rule = texts[choice]; break;
        }
    }

    private int limits(Sheet told, int house) {
        int limits = 0;
        for (int limit = 1; limit <= MOST_LIMIT; limit++) {
            if (fits(told, house, limit)) {
                limits++;
            }
        }
        return limits;
    }

    private int leastLimit(Sheet told, int house) {
        for (int limit = 1; limit <= MOST_LIMIT; limit++) {
            if (fits(told, house, limit)) {
                return limit;
            }
        }
        return NONE;
    }

    private boolean fits(Sheet told, int house, int limit) {
        for (int other = 0; other < now.count; other++) {
            // The HOUSE itself is one of those told of; its own 0 never reaches a LIMIT.
            boolean would = now.strength[house][other] >= limit;
            if (would != told.items[other] >= TOLD_TO_KNOW) {
                return false;
            }
        }
        return true;
    }

    /** A street as it is, as it was kept, or as it would be. */
    private static final class Street {
        int year;
        int limit = 20;
        int count;
        Text rule;
        final int[] kind = new int[MOST_HOUSES];
        final int[] number = new int[MOST_HOUSES];
        final int[] table = new int[MOST_HOUSES];
        final int[][] strength = new int[MOST_HOUSES][MOST_HOUSES];
        private final int[] names = new int[Text.ALL_NAMES];

        Street(Text rule) {
            this.rule = rule;
        }

        /** Places beyond the last HOUSE, too: so one that comes finds STRENGTH 0 there, as at first. */
        void become(Street other) {
            year = other.year;
            limit = other.limit;
            count = other.count;
            rule = other.rule;
            System.arraycopy(other.kind, 0, kind, 0, MOST_HOUSES);
            System.arraycopy(other.number, 0, number, 0, MOST_HOUSES);
            System.arraycopy(other.table, 0, table, 0, MOST_HOUSES);
            for (int i = 0; i < MOST_HOUSES; i++) {
                System.arraycopy(other.strength[i], 0, strength[i], 0, MOST_HOUSES);
            }
        }

        void add(int newKind, int newNumber) {
            if (count >= MOST_HOUSES) {
                return;
            }
            kind[count] = newKind;
            number[count] = newNumber;
            table[count] = NONE;
            count++;
        }

        void tie(int one, int other, int v) {
            strength[one][other] = v;
            strength[other][one] = v;
        }

        boolean knows(int one, int other) {
            return one != other && strength[one][other] >= limit;
        }

        int acquaintances(int one) {
            int known = 0;
            for (int other = 0; other < count; other++) {
                if (knows(one, other)) {
                    known++;
                }
            }
            return known;
        }

        int friends() {
            int friends = 0;
            for (int one = 0; one < count; one++) {
                for (int other = one + 1; other < count; other++) {
                    if (knows(one, other)) {
                        friends++;
                    }
                }
            }
            return friends;
        }

        int allStrength() {
            int all = 0;
            for (int one = 0; one < count; one++) {
                for (int other = one + 1; other < count; other++) {
                    all += strength[one][other];
                }
            }
            return all;
        }

        /** At no TABLE nobody sits, though many may not be there. */
        int seatsAt(int place) {
            if (place == NONE) {
                return 0;
            }
            int seats = 0;
            for (int house = 0; house < count; house++) {
                if (table[house] == place) {
                    seats++;
                }
            }
            return seats;
        }

        int seated() {
            int seated = 0;
            for (int place = 0; place < ALL_TABLES; place++) {
                seated += seatsAt(place);
            }
            return seated;
        }

        int meets(int one, int other) {
            look(one, other);
            int v = rule.value(Text.MEETS, names);
            switch (kind[one]) {
                case LOUD: return 2 * v;
                case OLD: return v / 2;
                case BAND: return 2 * v + number[one];
                case WALLED: return names[Text.APART] > 2 ? 0 : v / 2;
                case BABY: return 3;
                default: return v;
            }
        }

        int forgets(int one, int other) {
            look(one, other);
            int v = rule.value(Text.FADES, names);
            switch (kind[one]) {
                case LOUD: return v + 1;
                case OLD: return v / 2;
                case BAND: return 2 * (v + 1);
                case WALLED: return year % 2 == 0 ? 0 : v / 2;
                default: return v;
            }
        }

        int sounds(int one) {
            look(one, one);
            // Of itself STRENGTH and APART are 0 already, but the other's NUMBER would be its own.
            names[Text.OTHER] = 0;
            int v = rule.value(Text.SOUNDS, names);
            switch (kind[one]) {
                case LOUD: return v + 5;
                case OLD: case WALLED: return 0;
                case BAND: return 2 * (v + 5);
                case BABY: return number[one];
                default: return v;
            }
        }

        private void look(int one, int other) {
            names[Text.STRENGTH] = strength[one][other];
            names[Text.NUMBER] = number[one];
            names[Text.OTHER] = number[other];
            names[Text.SEATS] = seatsAt(table[one]);
            names[Text.YEAR] = year;
            names[Text.APART] = Math.abs(one - other);
        }

        void holdFeast() {
            for (int one = 0; one < count; one++) {
                for (int other = one + 1; other < count; other++) {
                    if (table[one] == NONE || table[one] != table[other]) {
                        continue;
                    }
                    int more = meets(one, other) + meets(other, one);
                    tie(one, other, Math.min(MOST_STRENGTH, strength[one][other] + more));
                }
            }
        }

        void endYear() {
            for (int one = 0; one < count; one++) {
                for (int other = one + 1; other < count; other++) {
                    int less = forgets(one, other) + forgets(other, one);
                    tie(one, other, Math.max(0, strength[one][other] - less));
                }
            }
            year++;
        }

        /** FRIENDS behind so many YEARS. */
        int pass(int years) {
            for (int i = 0; i < years; i++) {
                holdFeast();
                endYear();
            }
            return friends();
        }

        int quietTable() {
            int quiet = NONE;
            int least = 0;
            for (int place = 0; place < ALL_TABLES; place++) {
                if (seatsAt(place) == 0) {
                    continue;
                }
                int din = dinAt(place);
                if (quiet == NONE || din < least) {
                    quiet = place;
                    least = din;
                }
            }
            return quiet;
        }

        private int dinAt(int place) {
            int din = 0;
            for (int house = 0; house < count; house++) {
                if (table[house] == place) {
                    din += sounds(house);
                }
            }
            return din;
        }
    }

    /** Who KNOWS whom, a row of bits for each HOUSE. */
    private static final class Circle {
        private int count;
        private final int[] known = new int[MOST_HOUSES];

        void see(Street street) {
            count = street.count;
            for (int one = 0; one < count; one++) {
                known[one] = 0;
                for (int other = 0; other < count; other++) {
                    if (street.knows(one, other)) {
                        known[one] |= 1 << other;
                    }
                }
            }
        }

        int everyone() {
            return (1 << count) - 1;
        }

        /** Two who don't KNOW each other do, and the other way round. */
        void turn(int one, int other) {
            known[one] ^= 1 << other;
            known[other] ^= 1 << one;
        }

        int companies(int members) {
            int companies = 0;
            int rest = members;
            for (int house = 0; house < count; house++) {
                if ((rest >> house & 1) == 1) {
                    companies++;
                    rest &= ~companyOf(house, members);
                }
            }
            return companies;
        }

        int largestCompany() {
            int largest = 0;
            for (int house = 0; house < count; house++) {
                largest = Math.max(largest, Integer.bitCount(companyOf(house, everyone())));
            }
            return largest;
        }

        int distance(int one, int other) {
            int reached = 1 << one;
            for (int steps = 0; steps < MOST_HOUSES; steps++) {
                if ((reached >> other & 1) == 1) {
                    return steps;
                }
                reached = further(reached);
            }
            return NONE;
        }

        int longestWay(int ofStrangers) {
            int longest = 0;
            for (int one = 0; one < count; one++) {
                for (int other = one + 1; other < count; other++) {
                    int way = distance(one, other);
                    longest = Math.max(longest, way == NONE ? ofStrangers : way);
                }
            }
            return longest;
        }

        private int companyOf(int house, int members) {
            int reached = 1 << house;
            for (int steps = 0; steps < MOST_HOUSES; steps++) {
                reached = further(reached) & members;
            }
            return reached;
        }

        private int further(int reached) {
            int more = reached;
            for (int house = 0; house < count; house++) {
                if ((reached >> house & 1) == 1) {
                    more |= known[house];
                }
            }
            return more;
        }
    }

    /** A row of numbers of a sort, or missing; its items are kept as that sort holds them. */
    private static final class Sheet {
        static final int BYTES = 0, SHORTS = 1;

        int sort = NONE;
        int size;
        final int[] items = new int[MOST_ITEMS];

        boolean isMissing() {
            return sort == NONE;
        }

        void lay(int newSort, int newSize) {
            sort = newSort;
            size = newSize;
            for (int i = 0; i < MOST_ITEMS; i++) {
                items[i] = 0;
            }
        }

        boolean holds(int from, int n) {
            return n >= 0 && from >= 0 && from <= size - n;
        }

        void put(int i, int v) {
            switch (sort) {
                case BYTES: items[i] = (byte) v; break;
                case SHORTS: items[i] = (short) v; break;
                default: items[i] = v; break;
            }
        }

        /** The places (bits) at which a row is otherwise. */
        int unlikeItems(int[] row) {
            int bits = 0;
            for (int i = 0; i < size && i < row.length; i++) {
                if (items[i] != row[i]) {
                    bits |= 1 << i;
                }
            }
            return bits;
        }
    }

    /** A rule, as steps that work on a pile: 0 and above lay a number there. */
    private static final class Text {
        static final int MEETS = 0, FADES = 1, SOUNDS = 2;
        static final int STRENGTH = 0, NUMBER = 1, OTHER = 2, SEATS = 3, YEAR = 4, APART = 5;
        static final int ALL_NAMES = 6;
        // A step -1 .. -6 lays down the name 0 .. 5; those below work on what lies on the pile.
        static final int FIRST_NAME = -1, LAST_NAME = -6;
        static final int OR = -7, AND = -8, LESS = -9, SAME = -10;
        static final int ADD = -11, SUBTRACT = -12, TIMES = -13, NOT = -14, NEGATE = -15;
        // At most six Es stand in one another, and in each five operators wait: 31 numbers lie there.
        private static final int MOST_PILED = 40;
        private static final int MOST_VALUE = 60;

        final int place;
        private int size;
        private final int[] steps = new int[Tape.ROOM];
        private final int[] ends = new int[3];
        private final int[] pile = new int[MOST_PILED];

        Text(int place) {
            this.place = place;
        }

        void clear() {
            size = 0;
        }

        void write(int step) {
            if (size < Tape.ROOM) {
                steps[size] = step;
                size++;
            }
        }

        void endPart(int part) {
            ends[part] = size;
        }

        /** What a part tells of those whose names are given, within its bounds. */
        int value(int part, int[] names) {
            int from = part == MEETS ? 0 : ends[part - 1];
            int top = 0;
            for (int i = from; i < ends[part]; i++) {
                int step = steps[i];
                if (step >= LAST_NAME) {
                    if (top < MOST_PILED) {
                        pile[top] = step >= 0 ? step : names[FIRST_NAME - step];
                        top++;
                    }
                } else if (step <= NOT) {
                    if (top > 0) {
                        pile[top - 1] = turned(step, pile[top - 1]);
                    }
                } else if (top > 1) {
                    top--;
                    pile[top - 1] = joined(step, pile[top - 1], pile[top]);
                }
            }
            return top > 0 ? Math.max(0, Math.min(MOST_VALUE, pile[0])) : 0;
        }

        private static int turned(int step, int of) {
            if (step == NEGATE) {
                return -of;
            }
            return of == 0 ? 1 : 0;
        }

        private static int joined(int step, int left, int right) {
            switch (step) {
                case OR: return left != 0 || right != 0 ? 1 : 0;
                case AND: return left != 0 && right != 0 ? 1 : 0;
                case LESS: return left < right ? 1 : 0;
                case SAME: return left == right ? 1 : 0;
                case ADD: return left + right;
                case SUBTRACT: return left - right;
                default: return left * right;
            }
        }
    }

    /** THE TAPE, and the TOKENS that stand on it. */
    private static final class Tape {
        static final int ROOM = 160;
        // A letter of no word or number is a token by itself, be it a sign or not; the others lie above all letters.
        static final int END = 300, STRANGE = 301, NUMBER = 302, NAME = 303;
        static final int MEETS = 304, FADES = 305, SOUNDS = 306, OR = 307, AND = 308, NOT = 309;
        private static final int MOST_DIGITS = 4;

        int size;
        final int[] tokens = new int[ROOM + 1];
        final int[] starts = new int[ROOM + 1];
        /** What a NUMBER or a NAME writes into a TEXT. */
        final int[] steps = new int[ROOM + 1];
        private final int[] letters = new int[ROOM];
        private int at;

        boolean put(int letter) {
            if (size >= ROOM) {
                return false;
            }
            letters[size] = letter;
            size++;
            return true;
        }

        void empty() {
            size = 0;
        }

        void cut() {
            at = 0;
            for (int i = 0; i <= ROOM; i++) {
                while (at < size && isBlank(letters[at])) {
                    at++;
                }
                starts[i] = at;
                if (at >= size) {
                    tokens[i] = END;
                    return;
                }
                if (isDigit(letters[at])) {
                    cutNumber(i);
                } else if (isSmall(letters[at])) {
                    cutWord(i);
                } else {
                    tokens[i] = letters[at];
                    at++;
                }
            }
        }

        private void cutNumber(int i) {
            int value = 0;
            while (at < size && isDigit(letters[at])) {
                // Of one that is too long this may wrap, but nothing takes it.
                value = value * 10 + letters[at] - '0';
                at++;
            }
            tokens[i] = at - starts[i] > MOST_DIGITS ? STRANGE : NUMBER;
            steps[i] = value;
        }

        private void cutWord(int i) {
            while (at < size && isSmall(letters[at])) {
                at++;
            }
            int name = nameFrom(starts[i]);
            if (name == NONE) {
                tokens[i] = keyFrom(starts[i]);
            } else {
                tokens[i] = NAME;
                steps[i] = Text.FIRST_NAME - name;
            }
        }

        private int nameFrom(int start) {
            if (reads("strength", start)) {
                return Text.STRENGTH;
            } else if (reads("number", start)) {
                return Text.NUMBER;
            } else if (reads("other", start)) {
                return Text.OTHER;
            } else if (reads("seats", start)) {
                return Text.SEATS;
            } else if (reads("year", start)) {
                return Text.YEAR;
            }
            return reads("apart", start) ? Text.APART : NONE;
        }

        private int keyFrom(int start) {
            if (reads("meets", start)) {
                return MEETS;
            } else if (reads("fades", start)) {
                return FADES;
            } else if (reads("sounds", start)) {
                return SOUNDS;
            } else if (reads("or", start)) {
                return OR;
            } else if (reads("and", start)) {
                return AND;
            }
            return reads("not", start) ? NOT : STRANGE;
        }

        /** Whether a word, and no longer one, stands from a place on to where the cutting is. */
        private boolean reads(String word, int start) {
            if (at - start != word.length()) {
                return false;
            }
            for (int i = 0; i < word.length(); i++) {
                if (letters[start + i] != word.charAt(i)) {
                    return false;
                }
            }
            return true;
        }

        private static boolean isBlank(int letter) {
            return letter == ' ' || letter == '\n';
        }

        private static boolean isDigit(int letter) {
            return letter >= '0' && letter <= '9';
        }

        private static boolean isSmall(int letter) {
            return letter >= 'a' && letter <= 'z';
        }
    }

    /** Reads a TEXT from THE TAPE. */
    private static final class Reader {
        private static final int MOST_OPEN = 5;
        private static final int OR_LEVEL = 0, AND_LEVEL = 1, NOT_LEVEL = 2, SUM_LEVEL = 3, TERM_LEVEL = 4;

        private final Tape tape;
        private Text text;
        private int at;
        private int token;
        private int fault;

        Reader(Tape tape, Text first) {
            this.tape = tape;
            this.text = first;
        }

        /** Where the FAULT is; NONE. */
        int readInto(Text into) {
            text = into;
            text.clear();
            tape.cut();
            at = 0;
            token = tape.tokens[0];
            fault = NONE;
            readPart(Tape.MEETS, Text.MEETS);
            readPart(Tape.FADES, Text.FADES);
            readPart(Tape.SOUNDS, Text.SOUNDS);
            if (token != Tape.END) {
                fail();
            }
            return fault;
        }

        private void readPart(int key, int part) {
            expect(key);
            read(OR_LEVEL, 0);
            expect(';');
            text.endPart(part);
        }

        private void read(int level, int open) {
            if (level > TERM_LEVEL) {
                readOne(open);
                return;
            }
            if (level == NOT_LEVEL && token == Tape.NOT) {
                if (opens(open)) {
                    read(NOT_LEVEL, open + 1);
                    text.write(Text.NOT);
                }
                return;
            }
            read(level + 1, open);
            // SUMS are compared once only; all others go on as long as THE TAPE can.
            int most = level == NOT_LEVEL ? 1 : Tape.ROOM;
            for (int i = 0; i < most && levelOf(token) == level; i++) {
                int operation = operationOf(token);
                next();
                read(level + 1, open);
                text.write(operation);
            }
        }

        private void readOne(int open) {
            if (token == Tape.NUMBER || token == Tape.NAME) {
                text.write(tape.steps[at]);
                next();
            } else if (token == '-') {
                if (opens(open)) {
                    readOne(open + 1);
                    text.write(Text.NEGATE);
                }
            } else if (token == '(') {
                if (opens(open)) {
                    read(OR_LEVEL, open + 1);
                    expect(')');
                }
            } else {
                fail();
            }
        }

        private boolean opens(int open) {
            if (open >= MOST_OPEN) {
                fail();
                return false;
            }
            next();
            return true;
        }

        private void expect(int wanted) {
            if (token == wanted) {
                next();
            } else {
                fail();
            }
        }

        private void next() {
            if (at < Tape.ROOM) {
                at++;
                token = tape.tokens[at];
            }
        }

        private void fail() {
            if (fault == NONE) {
                fault = tape.starts[at];
            }
            // Nothing takes a strange token, so all that is still open ends without reading on.
            token = Tape.STRANGE;
        }

        private static int levelOf(int token) {
            switch (token) {
                case Tape.OR: return OR_LEVEL;
                case Tape.AND: return AND_LEVEL;
                case '<': case '=': return NOT_LEVEL;
                case '+': case '-': return SUM_LEVEL;
                case '*': return TERM_LEVEL;
                default: return NONE;
            }
        }

        private static int operationOf(int token) {
            switch (token) {
                case Tape.OR: return Text.OR;
                case Tape.AND: return Text.AND;
                case '<': return Text.LESS;
                case '=': return Text.SAME;
                case '+': return Text.ADD;
                case '-': return Text.SUBTRACT;
                default: return Text.TIMES;
            }
        }
    }
}
