/** The law of a tailoring city, in which all that is forbidden is so by thimblefuls. */
public final class ThimbleLaw {
    public static final int NONE = -1;

    private static final int OTHERS = -2;
    private static final int MOST_PEOPLE = 6;
    private static final int MOST_TEXTS = 4;
    private static final int MOST_BYTES = 300;
    private static final int MOST_DROPS = 999;
    private static final int LAST_DAY = 9999;
    private static final int KINDS = 4;
    private static final int FORBIDDEN = 3;
    private static final int TEARS_KIND = 3;

    private final Hand hand = new Hand();
    private final City city = hand.city;
    private final City kept = new City();
    private final Road road = new Road();
    private final Reader reader = new Reader();
    private final byte[] tape = new byte[MOST_BYTES];
    private int tapeLength = 0;
    private int latestFault = NONE;
    private int latestPlace = NONE;

    public ThimbleLaw() {
    }

    // ---- telling

    public int one(int stuff, int dent, int coins) {
        return hand.tellOne(stuff, dent, coins);
    }

    public boolean brim(int kind, int thimbles) {
        return hand.tellBrim(kind, thimbles);
    }

    public boolean standard(int drops) {
        return hand.tellStandard(drops);
    }

    public int feed(int a, int b, int c, int d, int e) {
        if (tapeLength + 20 > MOST_BYTES) {
            return NONE;
        }
        append(a);
        append(b);
        append(c);
        append(d);
        append(e);
        return tapeLength;
    }

    private void append(int four) {
        for (int shift = 24; shift >= 0 && tapeLength < MOST_BYTES; shift -= 8) {
            tape[tapeLength] = (byte) (four >> shift);
            tapeLength++;
        }
    }

    public int end(int n) {
        if (n < 0 || n > tapeLength) {
            return NONE;
        }
        tapeLength = n;
        return n;
    }

    public int text() {
        int number = city.textCount;
        if (!between(number, 0, MOST_TEXTS - 1)) {
            return NONE;
        }
        // A slot at or beyond the count is never one of the IMAGE's, so that it can be written over.
        reader.read(tape, tapeLength, hand.texts[number]);
        tapeLength = 0;
        latestFault = reader.fault;
        latestPlace = reader.place;
        if (latestFault != 0) {
            return NONE;
        }
        city.textCount = number + 1;
        return number;
    }

    public int fault(int what) {
        switch (what) {
            case 0: return latestFault;
            case 1: return latestPlace;
            default: return NONE;
        }
    }

    public boolean by(int text) {
        if (text < NONE || text >= city.textCount) {
            return false;
        }
        city.law = text;
        return true;
    }

    // ---- steps

    public int deed(int one, int kind, int drops) {
        return hand.does(one, kind, drops);
    }

    public int weep(int one, int drops) {
        return hand.weeps(one, drops);
    }

    public int wash(int one, int kind, int t) {
        return hand.washes(one, kind, t);
    }

    public int pour(int one, int kind) {
        return hand.pours(one, kind);
    }

    public int bend(int one) {
        return hand.bends(one);
    }

    public int shrink(int d) {
        return hand.shrinks(d);
    }

    public int day(int n) {
        if (!between(n, 1, 60) || city.today + n > LAST_DAY) {
            return NONE;
        }
        hand.passDays(n);
        return city.today;
    }

    public int played(int text) {
        if (text < 0 || text >= city.textCount) {
            return OTHERS;
        }
        return hand.plays(hand.texts[text]);
    }

    public int centuries(int seed, int n) {
        if (!between(seed, 0, 9999) || !between(n, 1, 40)) {
            return NONE;
        }
        hand.passCenturies(seed, n);
        return city.today;
    }

    public int undo() {
        return city.steps.takeBack(city);
    }

    // ---- what is

    public int of(int one, int what) {
        if (!city.has(one)) {
            return NONE;
        }
        switch (what) {
            case 0: return city.stuffs[one];
            case 1: return city.dents[one];
            case 2: return city.purses[one];
            case 3: return city.room(one);
            case 4: return city.overs(one);
            default: return NONE;
        }
    }

    public int drops(int one, int kind, int what) {
        if (!city.has(one) || !between(kind, 0, KINDS - 1)) {
            return NONE;
        }
        if (what >= 2 && kind == TEARS_KIND) {
            return NONE;
        }
        switch (what) {
            case 0: return city.amount(one, kind);
            case 1: return hand.driesNow(one, kind);
            case 2: return hand.errsNow(one, kind);
            case 3: return hand.fineNow(one, kind);
            default: return NONE;
        }
    }

    public int is(int what) {
        switch (what) {
            case 0: return city.today;
            case 1: return city.measure;
            case 2: return city.x;
            case 3: return city.brims[0];
            case 4: return city.brims[1];
            case 5: return city.brims[2];
            default: return OTHERS;
        }
    }

    public int book(int i, int what) {
        if (i == NONE) {
            return city.fineCount;
        }
        if (i < 0 || i >= city.fineCount) {
            return OTHERS;
        }
        switch (what) {
            case 0: return city.fineDay(i);
            case 1: return city.fineOne(i);
            case 2: return city.fineKind(i);
            case 3: return city.fineAmount(i);
            default: return OTHERS;
        }
    }

    // ---- what comes

    public int foretold(int n, int one, int kind) {
        if (!between(n, 1, 60) || !city.has(one) || !between(kind, 0, KINDS - 1)) {
            return NONE;
        }
        return Ahead.dropsBehind(hand, n, one, kind);
    }

    public int firstBrim(int one, int kind, int d) {
        if (!isCase(one, kind) || !between(d, 1, 99)) {
            return NONE;
        }
        return Ahead.daysToBrim(hand, one, kind, d);
    }

    public int plan(int kind, int drops) {
        if (kind == NONE) {
            return city.deeds.forget();
        }
        if (!isForbidden(kind) || !between(drops, 1, 99)) {
            return OTHERS;
        }
        return city.deeds.add(kind, drops, 0);
    }

    public int within(int one) {
        return city.has(one) ? Ahead.mostDeeds(city, one) : NONE;
    }

    public long wrongly(int one, int kind, int n, boolean low) {
        if (!isCase(one, kind) || !between(n, 1, 9) || n % 2 == 0) {
            return NONE;
        }
        long upper = Counsel.mostWrong(hand.errsNow(one, kind), n);
        long lower = Counsel.power(10, n);
        long shared = Counsel.greatestDivisor(upper, lower);
        if (shared == 0) {
            return NONE;
        }
        return (low ? lower : upper) / shared;
    }

    public int howOften(int one, int kind, int p) {
        if (!isCase(one, kind) || !between(p, 0, 100)) {
            return NONE;
        }
        int odds = hand.errsNow(one, kind);
        for (int n = 1; n <= 9; n += 2) {
            if (Counsel.mostWrong(odds, n) * 100 <= Counsel.power(10, n) * p) {
                return n;
            }
        }
        return NONE;
    }

    public boolean way(int one, int other, int length) {
        if (!city.has(one) || !city.has(other) || one == other || !between(length, 1, 99)) {
            return false;
        }
        city.ways[one * MOST_PEOPLE + other] = length;
        city.ways[other * MOST_PEOPLE + one] = length;
        return true;
    }

    public int round(int i) {
        if (i < NONE || i > city.people - 2 && i != NONE) {
            return OTHERS;
        }
        road.find(city.ways, city.people);
        return i == NONE ? road.shortest : road.best[i + 1];
    }

    // ---- what was

    public int year(int drops, int thimbles) {
        if (drops == NONE) {
            return city.years.forget();
        }
        if (!between(drops, 0, MOST_DROPS) || !between(thimbles, 0, 999)) {
            return OTHERS;
        }
        return city.years.add(drops, thimbles, 0);
    }

    public int shrunk(int what) {
        int least = Counsel.leastStandard(city.years);
        int greatest = Counsel.greatestStandard(city.years);
        switch (what) {
            // What fits one year are neighbours, and so is what fits all of them.
            case 0: return least == NONE ? 0 : greatest - least + 1;
            case 1: return least;
            case 2: return greatest;
            default: return OTHERS;
        }
    }

    public int wouldTell() {
        return Counsel.tellingDrops(city.years);
    }

    public int against(int one, int t, boolean tears) {
        if (!city.has(one) || !between(t, 0, MOST_DROPS)) {
            return NONE;
        }
        int set = Counsel.washedKinds(city, one, t);
        return tears ? Counsel.tearsFor(city, one, set) : set;
    }

    public int even(int people, boolean side) {
        if (people <= 0 || people >> city.people != 0) {
            return NONE;
        }
        int best = Counsel.evenSide(city, people);
        return side ? best : Counsel.difference(city, people, best);
    }

    public int worst() {
        return Counsel.worstOne(city);
    }

    public int moreDents(int one) {
        return city.has(one) ? Counsel.dentsToCome(city, one) : NONE;
    }

    public int cases(int s) {
        return between(s, 1, 99) ? Counsel.changedCases(city, s) : NONE;
    }

    public int dried(int one, int kind, int drops) {
        if (one == NONE) {
            return city.dryings.forget();
        }
        if (!city.has(one) || !between(kind, 0, KINDS - 1) || !between(drops, 0, 99)) {
            return OTHERS;
        }
        return city.dryings.add(one, kind, drops);
    }

    public int whose() {
        int set = 0;
        for (int i = 0; i < city.textCount && i < MOST_TEXTS; i++) {
            if (Ahead.driesAllSo(hand, hand.texts[i])) {
                set |= 1 << i;
            }
        }
        return set;
    }

    public boolean costs(int kind, int costs) {
        if (!isForbidden(kind) || !between(costs, 1, 99)) {
            return false;
        }
        city.prices[kind] = costs;
        return true;
    }

    public int game(int kind, boolean low) {
        return isForbidden(kind) ? Counsel.lookingOdds(city.prices, kind, low) : NONE;
    }

    // ---- by the book

    public int fined(int one) {
        if (one != NONE && !city.has(one)) {
            return OTHERS;
        }
        int sum = 0;
        for (int i = 0; i < city.fineCount; i++) {
            if (one == NONE || city.fineOne(i) == one) {
                sum += city.fineAmount(i);
            }
        }
        return sum;
    }

    public int fines(int kind) {
        if (!isForbidden(kind)) {
            return OTHERS;
        }
        int count = 0;
        for (int i = 0; i < city.fineCount; i++) {
            if (city.fineKind(i) == kind) {
                count++;
            }
        }
        return count;
    }

    public int sober(int kind) {
        if (!between(kind, 0, KINDS - 1)) {
            return NONE;
        }
        int set = 0;
        for (int one = 0; one < city.people; one++) {
            if (city.amount(one, kind) == 0) {
                set |= 1 << one;
            }
        }
        return set;
    }

    public int heaviest() {
        return Counsel.heaviestKind(city);
    }

    // ---- the image

    public int image() {
        kept.becomes(city);
        return city.today;
    }

    public int back() {
        city.becomes(kept);
        return city.today;
    }

    public int about(int what) {
        switch (what) {
            case 0: return city.people;
            case 1: return city.textCount;
            case 2: return city.law;
            case 3: return city.steps.count;
            case 4: return city.deeds.count;
            case 5: return city.years.count;
            case 6: return city.dryings.count;
            case 7: return tapeLength;
            default: return OTHERS;
        }
    }

    private boolean isCase(int one, int kind) {
        return city.has(one) && isForbidden(kind);
    }

    private static boolean isForbidden(int kind) {
        return between(kind, 0, FORBIDDEN - 1);
    }

    private static boolean between(int n, int least, int most) {
        return n >= least && n <= most;
    }

    /** All that an IMAGE holds. */
    private static final class City {
        static final int MOST_FINES = 30;

        int people = 0;
        int measure = 20;
        int today = 0;
        int x = 157;
        int textCount = 0;
        int law = NONE;
        int fineCount = 0;
        final int[] stuffs = new int[MOST_PEOPLE];
        final int[] dents = new int[MOST_PEOPLE];
        final int[] purses = new int[MOST_PEOPLE];
        final int[] amounts = new int[MOST_PEOPLE * KINDS];
        final int[] brims = {3, 2, 1};
        final int[] prices = {1, 1, 1};
        final int[] ways = new int[MOST_PEOPLE * MOST_PEOPLE];
        final int[] fineRow = new int[MOST_FINES];
        final Told deeds = new Told();
        final Told years = new Told();
        final Told dryings = new Told();
        final Steps steps = new Steps();

        City() {
            for (int i = 0; i < ways.length; i++) {
                ways[i] = 1;
            }
        }

        boolean has(int one) {
            return one >= 0 && one < people;
        }

        int room(int one) {
            return roomBy(measure, dents[one]);
        }

        static int roomBy(int standard, int dent) {
            return Math.max(1, standard - dent);
        }

        int amount(int one, int kind) {
            return amounts[one * KINDS + kind];
        }

        void setAmount(int one, int kind, int drops) {
            amounts[one * KINDS + kind] = Math.max(0, Math.min(MOST_DROPS, drops));
        }

        int above(int one, int kind, int room) {
            return amount(one, kind) - brims[kind] * room;
        }

        int overs(int one) {
            int room = room(one);
            int set = 0;
            for (int kind = 0; kind < FORBIDDEN; kind++) {
                if (above(one, kind, room) > 0) {
                    set |= 1 << kind;
                }
            }
            return set;
        }

        int draw() {
            int drawn = x;
            x = (x * 389 + 269) % 30493;
            return drawn;
        }

        /** A fine is one number (below 1800000000), so that a step keeps the whole BOOK in thirty. */
        void write(int one, int kind, int coins) {
            if (fineCount == MOST_FINES) {
                System.arraycopy(fineRow, 1, fineRow, 0, MOST_FINES - 1);
                fineCount--;
            }
            fineRow[fineCount] = ((today * MOST_PEOPLE + one) * FORBIDDEN + kind) * 10000 + coins;
            fineCount++;
        }

        int fineAmount(int i) {
            return fineRow[i] % 10000;
        }

        int fineKind(int i) {
            return fineRow[i] / 10000 % FORBIDDEN;
        }

        int fineOne(int i) {
            return fineRow[i] / (10000 * FORBIDDEN) % MOST_PEOPLE;
        }

        int fineDay(int i) {
            return fineRow[i] / (10000 * FORBIDDEN * MOST_PEOPLE);
        }

        void becomes(City other) {
            people = other.people;
            measure = other.measure;
            today = other.today;
            x = other.x;
            textCount = other.textCount;
            law = other.law;
            fineCount = other.fineCount;
            copy(other.stuffs, stuffs);
            copy(other.dents, dents);
            copy(other.purses, purses);
            copy(other.amounts, amounts);
            copy(other.brims, brims);
            copy(other.prices, prices);
            copy(other.ways, ways);
            copy(other.fineRow, fineRow);
            deeds.becomes(other.deeds);
            years.becomes(other.years);
            dryings.becomes(other.dryings);
            steps.becomes(other.steps);
        }

        static void copy(int[] from, int[] to) {
            System.arraycopy(from, 0, to, 0, Math.min(from.length, to.length));
        }
    }

    /** Up to eight rows that were told, of up to three numbers. */
    private static final class Told {
        static final int MOST = 8;

        final int[] first = new int[MOST];
        final int[] second = new int[MOST];
        final int[] third = new int[MOST];
        int count = 0;

        int add(int a, int b, int c) {
            if (count >= MOST) {
                return OTHERS;
            }
            first[count] = a;
            second[count] = b;
            third[count] = c;
            count++;
            return count;
        }

        int forget() {
            count = 0;
            return count;
        }

        void becomes(Told other) {
            count = other.count;
            City.copy(other.first, first);
            City.copy(other.second, second);
            City.copy(other.third, third);
        }
    }

    /** What was ahead of each of the latest STEPS, a row for each, in a ring. */
    private static final class Steps {
        static final int MOST = 30;
        static final int PEOPLE_AT = 0;
        static final int STANDARD_AT = 1;
        static final int DAY_AT = 2;
        static final int X_AT = 3;
        static final int FINES_AT = 4;
        static final int DENTS_AT = 5;
        static final int PURSES_AT = DENTS_AT + MOST_PEOPLE;
        static final int AMOUNTS_AT = PURSES_AT + MOST_PEOPLE;
        static final int BOOK_AT = AMOUNTS_AT + MOST_PEOPLE * KINDS;
        static final int WIDTH = BOOK_AT + City.MOST_FINES;

        final int[] rows = new int[MOST * WIDTH];
        int eldest = 0;
        int count = 0;

        void keep(City c) {
            if (count == MOST) {
                eldest = (eldest + 1) % MOST;
                count--;
            }
            int at = (eldest + count) % MOST * WIDTH;
            count++;
            rows[at + PEOPLE_AT] = c.people;
            rows[at + STANDARD_AT] = c.measure;
            rows[at + DAY_AT] = c.today;
            rows[at + X_AT] = c.x;
            rows[at + FINES_AT] = c.fineCount;
            System.arraycopy(c.dents, 0, rows, at + DENTS_AT, MOST_PEOPLE);
            System.arraycopy(c.purses, 0, rows, at + PURSES_AT, MOST_PEOPLE);
            System.arraycopy(c.amounts, 0, rows, at + AMOUNTS_AT, MOST_PEOPLE * KINDS);
            System.arraycopy(c.fineRow, 0, rows, at + BOOK_AT, City.MOST_FINES);
        }

        int takeBack(City c) {
            if (count <= 0) {
                return NONE;
            }
            count--;
            int at = (eldest + count) % MOST * WIDTH;
            c.measure = rows[at + STANDARD_AT];
            c.today = rows[at + DAY_AT];
            c.x = rows[at + X_AT];
            c.fineCount = rows[at + FINES_AT];
            System.arraycopy(rows, at + BOOK_AT, c.fineRow, 0, City.MOST_FINES);
            // Whoever was told behind this step is as told already: all later steps are taken back.
            int then = Math.min(MOST_PEOPLE, rows[at + PEOPLE_AT]);
            System.arraycopy(rows, at + DENTS_AT, c.dents, 0, then);
            System.arraycopy(rows, at + PURSES_AT, c.purses, 0, then);
            System.arraycopy(rows, at + AMOUNTS_AT, c.amounts, 0, then * KINDS);
            return count;
        }

        void tellStandard(int drops) {
            for (int i = 0; i < MOST; i++) {
                rows[i * WIDTH + STANDARD_AT] = drops;
            }
        }

        void becomes(Steps other) {
            eldest = other.eldest;
            count = other.count;
            City.copy(other.rows, rows);
        }
    }

    /** A TEXT that was read: its CLAUSES, and its laws as code for the Judge's stack. */
    private static final class Text {
        static final int MOST_CLAUSES = 24;
        static final int PARTS = 4;

        final int[] clauses = new int[MOST_CLAUSES * PARTS];
        // A TOKEN makes one row of code at most, and a byte one TOKEN at most.
        final int[] ops = new int[MOST_BYTES];
        final int[] args = new int[MOST_BYTES];
        final int[] from = {NONE, NONE, NONE};
        final int[] to = {NONE, NONE, NONE};
        int clauseCount = 0;
        int codeCount = 0;

        void clear() {
            clauseCount = 0;
            codeCount = 0;
            for (int law = 0; law < from.length; law++) {
                from[law] = NONE;
                to[law] = NONE;
            }
        }

        int part(int clause, int i) {
            return clauses[clause * PARTS + i];
        }

        void setPart(int i, int n) {
            if (clauseCount < MOST_CLAUSES) {
                clauses[clauseCount * PARTS + i] = n;
            }
        }

        int emit(int op, int arg) {
            if (codeCount >= MOST_BYTES) {
                return NONE;
            }
            ops[codeCount] = op;
            args[codeCount] = arg;
            codeCount++;
            return codeCount - 1;
        }

        void jumpHere(int at) {
            if (at >= 0 && at < MOST_BYTES) {
                args[at] = codeCount;
            }
        }
    }

    /** The TOKENS' numbers: words as they stand in ALL, then signs; code is written in them too. */
    private static final class Token {
        static final String ALL = "dries errs fine one brim standard do weep wash pour bend shrink day who stuff dent room kind drops coins tears of by above brims if then else end or and not ";
        static final int DRIES = 0;
        static final int ERRS = 1;
        static final int FINE = 2;
        static final int ONE = 3;
        static final int BRIM = 4;
        static final int STANDARD = 5;
        static final int DO = 6;
        static final int WEEP = 7;
        static final int WASH = 8;
        static final int POUR = 9;
        static final int BEND = 10;
        static final int SHRINK = 11;
        static final int DAY = 12;
        static final int WHO = 13;
        static final int STUFF = 14;
        static final int DENT = 15;
        static final int ROOM = 16;
        static final int KIND = 17;
        static final int DROPS = 18;
        static final int COINS = 19;
        static final int TEARS = 20;
        static final int OF = 21;
        static final int BY = 22;
        static final int ABOVE = 23;
        static final int BRIMS = 24;
        static final int IF = 25;
        static final int THEN = 26;
        static final int ELSE = 27;
        static final int END = 28;
        static final int OR = 29;
        static final int AND = 30;
        static final int NOT = 31;
        static final int NO_WORD = 32;
        static final int LESS = 33;
        static final int LESS_OR_SAME = 34;
        static final int MORE = 35;
        static final int MORE_OR_SAME = 36;
        static final int SAME = 37;
        static final int UNLIKE = 38;
        static final int PLUS = 39;
        static final int MINUS = 40;
        static final int TIMES = 41;
        static final int THROUGH = 42;
        static final int OPEN = 43;
        static final int CLOSE = 44;
        static final int SEMICOLON = 45;
        static final int NUMBER = 46;
        static final int NO_TOKEN = 47;
        static final int TEXT_END = 48;
        // Code alone:
        static final int NAME = 49;
        static final int NEGATE = 50;
        static final int UNLESS = 51;
        static final int JUMP = 52;
    }

    /** Reads a tape as a TEXT, or tells its first FAULT. */
    private static final class Reader {
        static final int MOST_OPEN = 8;

        final int[] codes = new int[MOST_BYTES + 1];
        final int[] starts = new int[MOST_BYTES + 1];
        final int[] values = new int[MOST_BYTES + 1];
        int tokens = 0;
        int at = 0;
        int law = NONE;
        int fault = 0;
        int place = NONE;

        void read(byte[] tape, int length, Text into) {
            fault = 0;
            place = NONE;
            at = 0;
            into.clear();
            scan(tape, Math.min(length, tape.length));
            for (int i = 0; i <= Text.MOST_CLAUSES; i++) {
                if (next() == Token.TEXT_END || !clause(into)) {
                    return;
                }
            }
        }

        // ---- tokens

        private void scan(byte[] tape, int length) {
            tokens = 0;
            int from = 0;
            for (int i = 0; i < MOST_BYTES && from < length; i++) {
                int sign = tape[from];
                if (sign == 32 || sign == 10) {
                    from++;
                } else if (isLetter(sign)) {
                    int to = runEnd(tape, from, length, false);
                    put(wordCode(tape, from, to), from, 0);
                    from = to;
                } else if (isDigit(sign)) {
                    int to = runEnd(tape, from, length, true);
                    put(Token.NUMBER, from, numberAt(tape, from, to));
                    from = to;
                } else {
                    boolean same = from + 1 < length && tape[from + 1] == '=' && (sign == '<' || sign == '>');
                    put(same ? (sign == '<' ? Token.LESS_OR_SAME : Token.MORE_OR_SAME) : signCode(sign), from, 0);
                    from += same ? 2 : 1;
                }
            }
            put(Token.TEXT_END, length, 0);
        }

        private void put(int code, int start, int value) {
            if (tokens < codes.length) {
                codes[tokens] = code;
                starts[tokens] = start;
                values[tokens] = value;
                tokens++;
            }
        }

        private static boolean isLetter(int sign) {
            return sign >= 'a' && sign <= 'z' || sign >= 'A' && sign <= 'Z';
        }

        private static boolean isDigit(int sign) {
            return sign >= '0' && sign <= '9';
        }

        private static int runEnd(byte[] tape, int from, int length, boolean digits) {
            for (int i = from; i < length; i++) {
                if (digits ? !isDigit(tape[i]) : !isLetter(tape[i])) {
                    return i;
                }
            }
            return length;
        }

        /** Above 9999 all numbers are alike wrong, so that 10000 stands for them. */
        private static int numberAt(byte[] tape, int from, int to) {
            int n = 0;
            for (int i = from; i < to; i++) {
                n = Math.min(10000, n * 10 + tape[i] - '0');
            }
            return n;
        }

        private static int wordCode(byte[] tape, int from, int to) {
            int code = 0;
            int start = 0;
            for (int i = 0; i < Token.ALL.length(); i++) {
                if (Token.ALL.charAt(i) == ' ') {
                    if (i - start == to - from && spells(tape, from, to, start)) {
                        return code;
                    }
                    code++;
                    start = i + 1;
                }
            }
            return Token.NO_WORD;
        }

        private static boolean spells(byte[] tape, int from, int to, int start) {
            for (int i = from; i < to; i++) {
                if (tape[i] != Token.ALL.charAt(start + i - from)) {
                    return false;
                }
            }
            return true;
        }

        private static int signCode(int sign) {
            switch (sign) {
                case '<': return Token.LESS;
                case '>': return Token.MORE;
                case '=': return Token.SAME;
                case '#': return Token.UNLIKE;
                case '+': return Token.PLUS;
                case '-': return Token.MINUS;
                case '*': return Token.TIMES;
                case '/': return Token.THROUGH;
                case '(': return Token.OPEN;
                case ')': return Token.CLOSE;
                case ';': return Token.SEMICOLON;
                default: return Token.NO_TOKEN;
            }
        }

        private int next() {
            return at < tokens ? codes[at] : Token.TEXT_END;
        }

        private boolean fail(int what) {
            if (fault == 0 && at < tokens) {
                fault = what;
                place = starts[at];
            }
            return false;
        }

        private boolean take(int code) {
            if (next() != code) {
                return fail(1);
            }
            at++;
            return true;
        }

        // ---- clauses

        private boolean clause(Text into) {
            int word = next();
            if (word > Token.DAY) {
                return fail(1);
            }
            if (word <= Token.FINE && into.from[word] != NONE) {
                return fail(4);
            }
            if (into.clauseCount >= Text.MOST_CLAUSES) {
                return fail(6);
            }
            at++;
            into.setPart(0, word);
            if (!(word <= Token.FINE ? lawOf(word, into) : order(word, into)) || !take(Token.SEMICOLON)) {
                return false;
            }
            into.clauseCount++;
            return true;
        }

        private boolean lawOf(int word, Text into) {
            law = word;
            into.from[word] = into.codeCount;
            if (!sum(0, into)) {
                return false;
            }
            into.to[word] = into.codeCount;
            return true;
        }

        private boolean order(int word, Text into) {
            switch (word) {
                case Token.ONE:
                    return part(1, 0, 2, into) && take(Token.DENT) && part(2, 0, 9, into)
                        && take(Token.COINS) && part(3, 0, 9999, into);
                case Token.BRIM:
                    return part(1, 0, 9, into) && take(Token.OF) && part(2, 0, 2, into);
                case Token.STANDARD:
                    return part(1, 1, 99, into);
                case Token.DO:
                case Token.WASH:
                    return part(1, 1, 99, into) && take(Token.OF) && part(2, 0, 2, into)
                        && take(Token.BY) && part(3, 0, 5, into);
                case Token.WEEP:
                    return part(1, 1, 99, into) && take(Token.BY) && part(2, 0, 5, into);
                case Token.POUR:
                    return part(1, 0, 5, into) && take(Token.OF) && part(2, 0, 2, into);
                case Token.BEND:
                    return part(1, 0, 5, into);
                case Token.SHRINK:
                    return part(1, 1, 99, into);
                default:
                    return part(1, 1, 60, into);
            }
        }

        private boolean part(int i, int least, int most, Text into) {
            if (next() != Token.NUMBER) {
                return fail(1);
            }
            int n = values[at];
            if (n < least || n > most) {
                return fail(2);
            }
            into.setPart(i, n);
            at++;
            return true;
        }

        // ---- sums; open: how many of ( not above brims if - are open around

        private boolean sum(int open, Text into) {
            if (!product(open, into)) {
                return false;
            }
            for (int i = 0; i < MOST_BYTES; i++) {
                int sign = next();
                if (sign != Token.PLUS && sign != Token.MINUS) {
                    return true;
                }
                at++;
                if (!product(open, into)) {
                    return false;
                }
                into.emit(sign, 0);
            }
            return true;
        }

        private boolean product(int open, Text into) {
            if (!single(open, into)) {
                return false;
            }
            for (int i = 0; i < MOST_BYTES; i++) {
                int sign = next();
                if (sign != Token.TIMES && sign != Token.THROUGH) {
                    return true;
                }
                at++;
                if (!single(open, into)) {
                    return false;
                }
                into.emit(sign, 0);
            }
            return true;
        }

        private boolean single(int open, Text into) {
            int word = next();
            if (word == Token.NUMBER) {
                return number(into);
            }
            if (word >= Token.DAY && word <= Token.TEARS) {
                return name(word, into);
            }
            boolean opens = word == Token.OPEN || word == Token.MINUS || word == Token.ABOVE
                || word == Token.BRIMS || word == Token.IF;
            if (!opens) {
                return fail(1);
            }
            if (open >= MOST_OPEN) {
                return fail(3);
            }
            at++;
            return nested(word, open + 1, into);
        }

        private boolean number(Text into) {
            if (values[at] > 9999) {
                return fail(2);
            }
            into.emit(Token.NUMBER, values[at]);
            at++;
            return true;
        }

        private boolean name(int word, Text into) {
            if (law == Token.DRIES && (word == Token.COINS || word == Token.TEARS)) {
                return fail(5);
            }
            into.emit(Token.NAME, word - Token.DAY);
            at++;
            return true;
        }

        private boolean nested(int word, int open, Text into) {
            switch (word) {
                case Token.OPEN:
                    return sum(open, into) && take(Token.CLOSE);
                case Token.MINUS:
                    return single(open, into) && into.emit(Token.NEGATE, 0) != NONE;
                case Token.ABOVE:
                    return single(open, into) && take(Token.BY) && single(open, into)
                        && into.emit(Token.ABOVE, 0) != NONE;
                case Token.BRIMS:
                    return single(open, into) && into.emit(Token.BRIMS, 0) != NONE;
                default:
                    return choice(open, into);
            }
        }

        private boolean choice(int open, Text into) {
            if (!either(open, into) || !take(Token.THEN)) {
                return false;
            }
            int unless = into.emit(Token.UNLESS, 0);
            if (!sum(open, into) || !take(Token.ELSE)) {
                return false;
            }
            int jump = into.emit(Token.JUMP, 0);
            into.jumpHere(unless);
            if (!sum(open, into) || !take(Token.END)) {
                return false;
            }
            into.jumpHere(jump);
            return true;
        }

        private boolean either(int open, Text into) {
            if (!both(open, into)) {
                return false;
            }
            for (int i = 0; i < MOST_BYTES && next() == Token.OR; i++) {
                at++;
                if (!both(open, into)) {
                    return false;
                }
                into.emit(Token.OR, 0);
            }
            return true;
        }

        private boolean both(int open, Text into) {
            if (!ask(open, into)) {
                return false;
            }
            for (int i = 0; i < MOST_BYTES && next() == Token.AND; i++) {
                at++;
                if (!ask(open, into)) {
                    return false;
                }
                into.emit(Token.AND, 0);
            }
            return true;
        }

        private boolean ask(int open, Text into) {
            if (next() == Token.NOT) {
                if (open >= MOST_OPEN) {
                    return fail(3);
                }
                at++;
                return ask(open + 1, into) && into.emit(Token.NOT, 0) != NONE;
            }
            if (!sum(open, into)) {
                return false;
            }
            int sign = next();
            if (sign < Token.LESS || sign > Token.UNLIKE) {
                return fail(1);
            }
            at++;
            return sum(open, into) && into.emit(sign, 0) != NONE;
        }
    }

    /** Says what a law says of the case that lies in its NAMES. */
    private static final class Judge {
        static final int MOST = 1000000;
        static final int DAY = 0;
        static final int WHO = 1;
        static final int STUFF = 2;
        static final int DENT = 3;
        static final int ROOM = 4;
        static final int KIND = 5;
        static final int DROPS = 6;
        static final int COINS = 7;
        static final int TEARS = 8;
        static final int WOOD = 1;

        final int[] names = new int[TEARS + 1];
        // Eight open ones hold five numbers each at most (or, and, a comparison, + and *), and above its first.
        final int[] stack = new int[64];

        void look(City c, int one, int kind) {
            names[DAY] = c.today;
            names[WHO] = one;
            names[STUFF] = c.stuffs[one];
            names[DENT] = c.dents[one];
            names[ROOM] = c.room(one);
            names[KIND] = kind;
            names[DROPS] = c.amount(one, kind);
            names[COINS] = c.purses[one];
            names[TEARS] = c.amount(one, TEARS_KIND);
        }

        int dries(Text text, int[] brims) {
            if (text == null || text.from[Token.DRIES] == NONE) {
                return names[STUFF] == WOOD ? 3 : 1;
            }
            return clamp(0, 99, value(text, Token.DRIES, brims));
        }

        int errs(Text text, int[] brims) {
            if (text == null || text.from[Token.ERRS] == NONE) {
                return 1;
            }
            return clamp(0, 10, value(text, Token.ERRS, brims));
        }

        int fine(Text text, int[] brims) {
            if (text == null || text.from[Token.FINE] == NONE) {
                return Math.max(0, names[DROPS] - ofOne(Token.BRIMS, names[KIND], brims) * names[ROOM]);
            }
            return clamp(0, 9999, value(text, Token.FINE, brims));
        }

        private static int clamp(long least, long most, long n) {
            return (int) (n < least ? least : n > most ? most : n);
        }

        private int value(Text text, int law, int[] brims) {
            int top = 0;
            int at = text.from[law];
            int to = Math.min(MOST_BYTES, text.to[law]);
            for (int i = 0; i < MOST_BYTES && at >= 0 && at < to; i++) {
                int op = text.ops[at];
                int arg = text.args[at];
                at++;
                if (op == Token.JUMP) {
                    at = arg;
                } else if (op == Token.NUMBER || op == Token.NAME) {
                    if (top < stack.length) {
                        stack[top] = op == Token.NUMBER ? arg : nameAt(arg);
                        top++;
                    }
                } else if (op == Token.UNLESS) {
                    if (top > 0) {
                        top--;
                        at = stack[top] == 0 ? arg : at;
                    }
                } else if (op == Token.NEGATE || op == Token.BRIMS || op == Token.NOT) {
                    if (top > 0) {
                        stack[top - 1] = ofOne(op, stack[top - 1], brims);
                    }
                } else if (top > 1) {
                    top--;
                    stack[top - 1] = clamp(-MOST, MOST, ofTwo(op, stack[top - 1], stack[top]));
                }
            }
            return top > 0 ? stack[0] : 0;
        }

        private int nameAt(int i) {
            return i >= 0 && i < names.length ? names[i] : 0;
        }

        private static int ofOne(int op, int n, int[] brims) {
            switch (op) {
                case Token.NEGATE: return -n;
                case Token.BRIMS: return n >= 0 && n < brims.length ? brims[n] : 0;
                default: return n == 0 ? 1 : 0;
            }
        }

        private static long ofTwo(int op, long a, long b) {
            switch (op) {
                case Token.PLUS: return a + b;
                case Token.MINUS: return a - b;
                case Token.TIMES: return a * b;
                case Token.THROUGH: return b == 0 ? 0 : a / b;
                case Token.ABOVE: return a > b ? a - b : 0;
                case Token.LESS: return a < b ? 1 : 0;
                case Token.LESS_OR_SAME: return a <= b ? 1 : 0;
                case Token.MORE: return a > b ? 1 : 0;
                case Token.MORE_OR_SAME: return a >= b ? 1 : 0;
                case Token.SAME: return a == b ? 1 : 0;
                case Token.UNLIKE: return a != b ? 1 : 0;
                case Token.AND: return a != 0 && b != 0 ? 1 : 0;
                default: return a != 0 || b != 0 ? 1 : 0;
            }
        }
    }

    /** Tells and does, whether by hand, by a TEXT or by CENTURIES. */
    private static final class Hand {
        final City city = new City();
        final Judge judge = new Judge();
        final Text[] texts = new Text[MOST_TEXTS];
        // CENTURIES are one STEP: what is done in them is none of its own.
        private boolean inCenturies = false;

        Hand() {
            for (int i = 0; i < MOST_TEXTS; i++) {
                texts[i] = new Text();
            }
        }

        Text ruling() {
            return between(city.law, 0, texts.length - 1) ? texts[city.law] : null;
        }

        int driesNow(int one, int kind) {
            judge.look(city, one, kind);
            return judge.dries(ruling(), city.brims);
        }

        int errsNow(int one, int kind) {
            judge.look(city, one, kind);
            return judge.errs(ruling(), city.brims);
        }

        int fineNow(int one, int kind) {
            judge.look(city, one, kind);
            return judge.fine(ruling(), city.brims);
        }

        private void step() {
            if (!inCenturies) {
                city.steps.keep(city);
            }
        }

        int tellOne(int stuff, int dent, int coins) {
            int one = city.people;
            if (!between(stuff, 0, 2) || !between(dent, 0, 9) || !between(coins, 0, 9999) || one >= MOST_PEOPLE) {
                return NONE;
            }
            city.stuffs[one] = stuff;
            city.dents[one] = dent;
            city.purses[one] = coins;
            for (int kind = 0; kind < KINDS; kind++) {
                city.setAmount(one, kind, 0);
            }
            city.people++;
            return one;
        }

        boolean tellBrim(int kind, int thimbles) {
            if (!isForbidden(kind) || !between(thimbles, 0, 9)) {
                return false;
            }
            city.brims[kind] = thimbles;
            return true;
        }

        boolean tellStandard(int drops) {
            if (!between(drops, 1, 99)) {
                return false;
            }
            city.measure = drops;
            city.steps.tellStandard(drops);
            return true;
        }

        int does(int one, int kind, int drops) {
            if (!city.has(one) || !isForbidden(kind) || !between(drops, 1, 99)) {
                return NONE;
            }
            step();
            city.setAmount(one, kind, city.amount(one, kind) + drops);
            return city.amount(one, kind);
        }

        int weeps(int one, int drops) {
            if (!city.has(one) || !between(drops, 1, 99)) {
                return NONE;
            }
            step();
            city.setAmount(one, TEARS_KIND, city.amount(one, TEARS_KIND) + drops);
            return city.amount(one, TEARS_KIND);
        }

        int washes(int one, int kind, int t) {
            if (!city.has(one) || !isForbidden(kind) || t < 1) {
                return NONE;
            }
            int drops = city.amount(one, kind);
            int tears = city.amount(one, TEARS_KIND);
            if (t > drops || t > tears) {
                return NONE;
            }
            step();
            city.setAmount(one, kind, drops - t);
            city.setAmount(one, TEARS_KIND, tears - t);
            return drops - t;
        }

        int pours(int one, int kind) {
            if (!city.has(one) || !isForbidden(kind)) {
                return OTHERS;
            }
            step();
            boolean isOver = (city.overs(one) >> kind & 1) == 1;
            boolean errs = city.draw() % 10 < errsNow(one, kind);
            if (isOver == errs) {
                return NONE;
            }
            int coins = Math.min(city.purses[one], fineNow(one, kind));
            city.purses[one] -= coins;
            city.setAmount(one, kind, 0);
            city.write(one, kind, coins);
            return coins;
        }

        int bends(int one) {
            if (!city.has(one) || city.dents[one] >= 9) {
                return NONE;
            }
            step();
            city.dents[one]++;
            return city.room(one);
        }

        int shrinks(int d) {
            if (d < 1 || d >= city.measure) {
                return NONE;
            }
            step();
            city.measure -= d;
            return city.measure;
        }

        /** Whether all n could pass; those that can do. */
        boolean passDays(int n) {
            for (int i = 0; i < n; i++) {
                if (city.today >= LAST_DAY) {
                    return false;
                }
                step();
                dryAll();
                city.today++;
            }
            return true;
        }

        private void dryAll() {
            for (int one = 0; one < city.people; one++) {
                for (int kind = 0; kind < KINDS; kind++) {
                    int drops = city.amount(one, kind);
                    // Whatever the law says, nothing stays nothing: it need not be asked.
                    if (drops > 0) {
                        judge.look(city, one, kind);
                        city.setAmount(one, kind, drops - judge.dries(ruling(), city.brims));
                    }
                }
            }
        }

        int plays(Text text) {
            for (int i = 0; i < text.clauseCount && i < Text.MOST_CLAUSES; i++) {
                if (!act(text.part(i, 0), text.part(i, 1), text.part(i, 2), text.part(i, 3))) {
                    return i;
                }
            }
            return NONE;
        }

        private boolean act(int word, int a, int b, int c) {
            switch (word) {
                case Token.ONE: return tellOne(a, b, c) != NONE;
                case Token.BRIM: return tellBrim(b, a);
                case Token.STANDARD: return tellStandard(a);
                case Token.DO: return does(c, b, a) != NONE;
                case Token.WEEP: return weeps(b, a) != NONE;
                case Token.WASH: return washes(c, b, a) != NONE;
                case Token.POUR: return pours(a, b) != OTHERS;
                case Token.BEND: return bends(a) != NONE;
                case Token.SHRINK: return shrinks(a) != NONE;
                case Token.DAY: return passDays(a);
                default: return true;
            }
        }

        void passCenturies(int seed, int n) {
            step();
            inCenturies = true;
            city.x = seed * 2 + 157;
            for (int i = 0; i < n; i++) {
                happen(city.draw());
            }
            inCenturies = false;
        }

        private void happen(int x) {
            if (x % 7 == 6) {
                passDays(1);
                return;
            }
            if (city.people == 0) {
                return;
            }
            int one = x % city.people;
            int kind = x % FORBIDDEN;
            switch (x % 7) {
                case 0:
                case 1:
                    does(one, kind, 1 + x % 30);
                    break;
                case 2:
                    weeps(one, 1 + x % 20);
                    break;
                case 3:
                    washes(one, kind, x % 5);
                    break;
                case 4:
                    pours(one, kind);
                    break;
                default:
                    if (x % 4 == 0) {
                        bends(one);
                    }
                    break;
            }
        }
    }

    /** What comes, and by whose law it came; changes nothing but the Judge's NAMES. */
    private static final class Ahead {

        static int dropsBehind(Hand hand, int n, int one, int kind) {
            hand.judge.look(hand.city, one, kind);
            for (int i = 0; i < n; i++) {
                if (!dryOneDay(hand)) {
                    break;
                }
            }
            return hand.judge.names[Judge.DROPS];
        }

        static int daysToBrim(Hand hand, int one, int kind, int d) {
            int[] names = hand.judge.names;
            hand.judge.look(hand.city, one, kind);
            int most = hand.city.brims[kind] * hand.city.room(one);
            for (int days = 0; days <= 60; days++) {
                names[Judge.DROPS] = Math.min(MOST_DROPS, names[Judge.DROPS] + d);
                if (names[Judge.DROPS] > most) {
                    return days;
                }
                if (!dryOneDay(hand)) {
                    return NONE;
                }
            }
            return NONE;
        }

        /** In the NAMES alone: of what dries may ask, a DAY changes no more than these two. */
        private static boolean dryOneDay(Hand hand) {
            int[] names = hand.judge.names;
            if (names[Judge.DAY] >= LAST_DAY) {
                return false;
            }
            int dried = hand.judge.dries(hand.ruling(), hand.city.brims);
            names[Judge.DROPS] = Math.max(0, names[Judge.DROPS] - dried);
            names[Judge.DAY]++;
            return true;
        }

        static boolean driesAllSo(Hand hand, Text text) {
            Told dryings = hand.city.dryings;
            for (int i = 0; i < dryings.count; i++) {
                hand.judge.look(hand.city, dryings.first[i], dryings.second[i]);
                if (hand.judge.dries(text, hand.city.brims) != dryings.third[i]) {
                    return false;
                }
            }
            return true;
        }

        static int mostDeeds(City city, int one) {
            int best = 0;
            int bestCount = 0;
            int bestDrops = 0;
            for (int set = 1; set < 1 << city.deeds.count; set++) {
                int count = Integer.bitCount(set);
                if (count < bestCount || !staysWithin(city, one, set)) {
                    continue;
                }
                int drops = dropsOf(city.deeds, set, 0) + dropsOf(city.deeds, set, 1) + dropsOf(city.deeds, set, 2);
                if (count > bestCount || drops > bestDrops) {
                    best = set;
                    bestCount = count;
                    bestDrops = drops;
                }
            }
            return best;
        }

        private static boolean staysWithin(City city, int one, int set) {
            int room = city.room(one);
            for (int kind = 0; kind < FORBIDDEN; kind++) {
                int drops = dropsOf(city.deeds, set, kind);
                if (drops > 0 && city.above(one, kind, room) + drops > 0) {
                    return false;
                }
            }
            return true;
        }

        private static int dropsOf(Told deeds, int set, int kind) {
            int sum = 0;
            for (int i = 0; i < deeds.count; i++) {
                if ((set >> i & 1) == 1 && deeds.first[i] == kind) {
                    sum += deeds.second[i];
                }
            }
            return sum;
        }
    }

    /** The inspector's round. */
    private static final class Road {
        final int[] path = new int[MOST_PEOPLE];
        final int[] best = new int[MOST_PEOPLE];
        int shortest = 0;

        void find(int[] ways, int people) {
            shortest = 0;
            if (people >= 2 && people <= MOST_PEOPLE) {
                shortest = MOST_PEOPLE * 99 + 1;
                path[0] = 0;
                walk(ways, people, 1, 1, 0);
            }
        }

        /** Lowest houses are tried first, so that of like rounds the first that was found stays. */
        private void walk(int[] ways, int people, int count, int seen, int length) {
            if (count < 1 || count > people) {
                return;
            }
            int here = path[count - 1] * MOST_PEOPLE;
            if (count == people) {
                if (length + ways[here] < shortest) {
                    shortest = length + ways[here];
                    City.copy(path, best);
                }
                return;
            }
            for (int house = 1; house < people; house++) {
                if ((seen >> house & 1) == 0) {
                    path[count] = house;
                    walk(ways, people, count + 1, seen | 1 << house, length + ways[here + house]);
                }
            }
        }
    }

    /** Reckons what is asked of the city as it is; changes nothing. */
    private static final class Counsel {

        // ---- odds

        /** By how many of 10 to the n: that most of n err, each by odds of 10. */
        static long mostWrong(int odds, int n) {
            long sum = 0;
            for (int wrong = n / 2 + 1; wrong <= n; wrong++) {
                sum += choices(n, wrong) * power(odds, wrong) * power(10 - odds, n - wrong);
            }
            return sum;
        }

        private static long choices(int n, int k) {
            long product = 1;
            for (int i = 1; i <= k; i++) {
                product = product * (n - k + i) / i;
            }
            return product;
        }

        static long power(long base, int n) {
            long product = 1;
            for (int i = 0; i < n; i++) {
                product *= base;
            }
            return product;
        }

        static long greatestDivisor(long a, long b) {
            for (int i = 0; i < 200 && b != 0; i++) {
                long rest = a % b;
                a = b;
                b = rest;
            }
            return a;
        }

        /** Odds in the measure of 1 by COSTS make the mean alike. */
        static int lookingOdds(int[] prices, int kind, boolean low) {
            int lower = prices[1] * prices[2] + prices[0] * prices[2] + prices[0] * prices[1];
            int upper = 1;
            for (int other = 0; other < FORBIDDEN; other++) {
                upper *= other == kind ? 1 : prices[other];
            }
            long shared = greatestDivisor(upper, lower);
            if (shared == 0) {
                return NONE;
            }
            return (int) ((low ? lower : upper) / shared);
        }

        // ---- the standard

        private static boolean fits(Told years, int standard) {
            if (standard < 1) {
                return false;
            }
            for (int i = 0; i < years.count; i++) {
                if (years.first[i] / standard != years.second[i]) {
                    return false;
                }
            }
            return true;
        }

        static int leastStandard(Told years) {
            for (int s = 1; s <= 99; s++) {
                if (fits(years, s)) {
                    return s;
                }
            }
            return NONE;
        }

        static int greatestStandard(Told years) {
            for (int s = 99; s >= 1; s--) {
                if (fits(years, s)) {
                    return s;
                }
            }
            return NONE;
        }

        static int tellingDrops(Told years) {
            int least = leastStandard(years);
            int greatest = greatestStandard(years);
            if (least == NONE) {
                return NONE;
            }
            int best = 0;
            int most = 0;
            for (int drops = 0; drops <= MOST_DROPS && most <= greatest - least; drops++) {
                int unlike = unlikeCounts(drops, least, greatest);
                if (unlike > most) {
                    best = drops;
                    most = unlike;
                }
            }
            return best;
        }

        /** STANDARDS with like counts are neighbours: it goes from each such row to the next. */
        private static int unlikeCounts(int drops, int least, int greatest) {
            int count = 0;
            int s = least;
            for (int i = 0; i < 99 && s >= 1 && s <= greatest; i++) {
                count++;
                int thimbles = drops / s;
                if (thimbles == 0) {
                    break;
                }
                s = drops / thimbles + 1;
            }
            return count;
        }

        static int changedCases(City city, int standard) {
            int count = 0;
            for (int one = 0; one < city.people; one++) {
                int now = city.room(one);
                int then = City.roomBy(standard, city.dents[one]);
                for (int kind = 0; kind < FORBIDDEN; kind++) {
                    if (city.above(one, kind, now) > 0 != city.above(one, kind, then) > 0) {
                        count++;
                    }
                }
            }
            return count;
        }

        // ---- people

        /** The KINDS that t tears wash: most of them, by fewest tears, the lowest set. */
        static int washedKinds(City city, int one, int t) {
            int overs = city.overs(one);
            int best = 0;
            for (int set = 1; set < 1 << FORBIDDEN; set++) {
                int tears = tearsFor(city, one, set);
                if ((set & overs) != set || tears > t) {
                    continue;
                }
                int more = Integer.bitCount(set) - Integer.bitCount(best);
                if (more > 0 || more == 0 && tears < tearsFor(city, one, best)) {
                    best = set;
                }
            }
            return best;
        }

        static int tearsFor(City city, int one, int set) {
            int room = city.room(one);
            int sum = 0;
            for (int kind = 0; kind < FORBIDDEN; kind++) {
                if ((set >> kind & 1) == 1) {
                    sum += Math.max(0, city.above(one, kind, room));
                }
            }
            return sum;
        }

        static int evenSide(City city, int people) {
            int lowest = people & -people;
            int best = people;
            for (int side = lowest; side < people; side++) {
                boolean isSide = (side & people) == side && (side & lowest) != 0;
                if (isSide && difference(city, people, side) < difference(city, people, best)) {
                    best = side;
                }
            }
            return best;
        }

        static int difference(City city, int people, int side) {
            int sum = 0;
            for (int one = 0; one < city.people; one++) {
                if ((people >> one & 1) == 1) {
                    sum += (side >> one & 1) == 1 ? city.room(one) : -city.room(one);
                }
            }
            return Math.abs(sum);
        }

        static int worstOne(City city) {
            int worst = NONE;
            int most = 0;
            for (int one = 0; one < city.people; one++) {
                int drops = tearsFor(city, one, (1 << FORBIDDEN) - 1);
                if (drops > most) {
                    worst = one;
                    most = drops;
                }
            }
            return worst;
        }

        static int dentsToCome(City city, int one) {
            int most = NONE;
            for (int dent = city.dents[one]; dent <= 9; dent++) {
                int room = City.roomBy(city.measure, dent);
                for (int kind = 0; kind < FORBIDDEN; kind++) {
                    if (city.above(one, kind, room) > 0) {
                        return most;
                    }
                }
                most++;
            }
            return most;
        }

        static int heaviestKind(City city) {
            int best = 0;
            int most = 0;
            for (int kind = 0; kind < KINDS; kind++) {
                int sum = 0;
                for (int one = 0; one < city.people; one++) {
                    sum += city.amount(one, kind);
                }
                if (sum > most) {
                    best = kind;
                    most = sum;
                }
            }
            return best;
        }
    }
}
