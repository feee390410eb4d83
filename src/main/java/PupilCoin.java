import java.util.Arrays;

/** A land's coin, dealt to schools by formulae that are told as texts. See README.md. */
public final class PupilCoin {
    public static final int NONE = -1;

    private static final long NOTHING = -2000000000000L;
    private static final int UNFIT = -2;
    private static final int FULL = -3;

    private static final int LAST_DAY = 999;
    private static final int YEAR_DAYS = 100;
    private static final int YEARS = 10;
    private static final int SCHOOLS = 12;
    private static final int WARDS = 8;
    private static final int COUNCILS = 3;
    private static final int NODES = 16;
    private static final int MOST_NEED = 100;
    private static final int MOST_MILES = 999;
    private static final int FARTHEST = 9999;
    private static final int NO_WAY = 1000000;
    private static final int MARKS = 300;
    private static final int MARK_KINDS = 6;
    private static final int LOOKED_AT = 5;
    private static final int MOST_MARK = 9999;
    private static final int AGES = 3;
    private static final int MOST_AHEAD = 5;
    private static final int JOINS = 6;
    private static final int TAPE = 700;
    private static final int FEED = 20;
    private static final int LAWS = 8;
    private static final int STATEMENTS = 30;
    private static final int OPENS = 8;
    private static final int NAME_LETTERS = 8;
    private static final int DIGITS = 7;
    private static final int MOVES = 20;
    private static final int MOST_COINS = 9999999;
    private static final int MOST_TOTAL = 999999999;
    private static final int WAIT = 10;
    private static final int TENTHS = 20;
    private static final long HELD = 100000000L;
    private static final long BASE_HELD = 10000000000L;

    private static final int LED_FLOOR = 30;
    private static final int LED_CAP = 31;
    private static final int LED_SHARE = 32;
    private static final int LED_RIGHT = 33;
    private static final int LED_MOVED = 34;

    // What statements set, as places in Law.told; law() numbers them the same way.
    private static final int FLOOR = 0;
    private static final int CAP = 1;
    private static final int TOTAL = 2;
    private static final int MOVE = 3;
    private static final int ORDER = 4;
    private static final int SHARE = 5;
    private static final int SETTINGS = 6;
    private static final int STATEMENT_COUNT = 6;
    private static final int WHICH_FORMULA = 7;

    // The words that EX may use, as places in Mill.words.
    private static final int HEADS = 3;
    private static final int NEED = 6;
    private static final int FAR = 7;
    private static final int LAST = 8;
    private static final int WARD = 9;
    private static final int WORDS = 10;

    // A step of a formula's code is sixteen times its value and one of these.
    private static final int STEP = 16;
    private static final int PUSH_NUMBER = 0;
    private static final int PUSH_WORD = 1;
    private static final int PUSH_LINE = 2;
    private static final int ADD = 3;
    private static final int TAKE = 4;
    private static final int TIMES = 5;
    private static final int PARTED = 6;
    private static final int LEAST = 7;
    private static final int MOST = 8;
    private static final int BELOW = 9;
    private static final int ABOVE = 10;
    private static final int SAME = 11;
    private static final int AND = 12;
    private static final int OR = 13;
    private static final int NOT = 14;
    // Eight open ones with a few values waiting in each stay far below this.
    private static final int STACK = 64;

    // Eight places for each word that is no NAME; the last ten are those that EX may use.
    private static final String KEYS = "line    floor   cap     total   move    order   share   if      min     max     or      and     not     first   lower   upper   heads   meals   special need    far     last    ward    ";
    // Tokens: a sign is its byte, a key is KEY and its place in KEYS.
    private static final int KEY = 256;
    private static final int KEY_LINE = 256;
    private static final int KEY_FLOOR = 257;
    private static final int KEY_CAP = 258;
    private static final int KEY_TOTAL = 259;
    private static final int KEY_MOVE = 260;
    private static final int KEY_ORDER = 261;
    private static final int KEY_SHARE = 262;
    private static final int KEY_IF = 263;
    private static final int KEY_MIN = 264;
    private static final int KEY_MAX = 265;
    private static final int KEY_OR = 266;
    private static final int KEY_AND = 267;
    private static final int KEY_NOT = 268;
    private static final int KEY_WORD = 269;
    private static final int KEY_END = 279;
    private static final int NAME = 280;
    private static final int NUMBER = 281;
    private static final int TEXT_END = 282;
    private static final int NO_TOKEN = 283;

    private final Land land = new Land();
    private final Marks marks = new Marks();
    private final Reader reader = new Reader();
    private final Rules rules = new Rules(new Law(reader, NONE, 0, 0));
    private final Sums sums = new Sums(land, marks, rules);
    private final Moves moves = new Moves();
    private final int[] tape = new int[TAPE];
    private int taped;
    private Law aside;
    private int faultPlace = NONE;
    private int today;

    public PupilCoin() {
    }

    public boolean day(int d) {
        if (d <= today || d > LAST_DAY) return false;
        today = d;
        return true;
    }

    public int school(int ward, int council, int node) {
        if (!within(ward, WARDS) || !within(council, COUNCILS) || !within(node, NODES)) return NONE;
        if (land.schools >= SCHOOLS) return NONE;
        sums.forget();
        return land.found(ward, council, node);
    }

    public boolean need(int ward, int need) {
        if (!within(ward, WARDS) || need < 0 || need > MOST_NEED) return false;
        land.need[ward] = need;
        sums.forget();
        return true;
    }

    public boolean road(int a, int b, int miles) {
        if (!within(a, NODES) || !within(b, NODES) || a == b) return false;
        if (miles < 0 || miles > MOST_MILES) return false;
        land.roads.lay(a, b, miles);
        sums.forget();
        return true;
    }

    public int far(int school, int year) {
        if (!isSchool(school) || !isYear(year) || !land.isOpen(school, year)) return NONE;
        return land.reach(school, year);
    }

    public int mark(int school, int year, int what, int v) {
        if (!isSchool(school) || !isYear(year) || !within(what, MARK_KINDS)) return NONE;
        if (v < 0 || v > MOST_MARK || marks.count >= MARKS) return NONE;
        sums.forget();
        return marks.tell(school, year, what, v, today);
    }

    public int marked(int school, int year, int what, int known) {
        if (!isSchool(school) || !isYear(year) || !within(what, MARK_KINDS) || !isDay(known)) return NONE;
        return marks.held(school, year, what, known);
    }

    public int join(int taker, int other, int year) {
        if (!isSchool(taker) || !isSchool(other) || taker == other) return NONE;
        if (!isLaterYear(year) || land.joins >= JOINS) return NONE;
        if (land.isTaken(taker) || land.isTaken(other)) return NONE;
        sums.forget();
        return land.take(taker, other, year);
    }

    public int open(int school, int year) {
        if (!isSchool(school) || !isYear(year)) return NONE;
        return land.isOpen(school, year) ? 1 : 0;
    }

    public int feed(int a, int b, int c, int d, int e) {
        if (taped > TAPE - FEED) return NONE;
        tapeNumber(a);
        tapeNumber(b);
        tapeNumber(c);
        tapeNumber(d);
        tapeNumber(e);
        return taped;
    }

    public int formula(int n, int year) {
        if (n < 0 || n > taped || !isYear(year) || year < today / YEAR_DAYS) return UNFIT;
        if (rules.count >= LAWS) return FULL;
        faultPlace = reader.read(tape, n);
        taped = 0;
        if (faultPlace != NONE) return NONE;
        sums.forget();
        return rules.take(new Law(reader, rules.count, year, today));
    }

    public int beside(int n) {
        if (n < 0 || n > taped) return UNFIT;
        faultPlace = reader.read(tape, n);
        taped = 0;
        aside = faultPlace == NONE ? new Law(reader, NONE, 0, 0) : null;
        return faultPlace == NONE ? 0 : NONE;
    }

    public int fault() {
        return faultPlace;
    }

    public int law(int year, int known, int what) {
        if (!isYear(year) || !isDay(known)) return NONE;
        return rules.inForce(year, known).tells(what);
    }

    public long sum(int school, int year, int known) {
        if (!isSchool(school) || !isYear(year) || !isDay(known)) return NOTHING;
        sums.reckon(year, known);
        return sums.whole[school];
    }

    public long led(int school, int year, int k) {
        if (!isSchool(school) || !isYear(year) || k < 0 || k > LED_MOVED) return NOTHING;
        if (!land.isOpen(school, year)) return 0;
        if (k == LED_RIGHT) return sums.putRight(school, year);
        if (k == LED_MOVED) return moves.moved(school, year);
        sums.reckon(year, year * YEAR_DAYS);
        if (k == LED_FLOOR) return sums.floor[school];
        if (k == LED_CAP) return sums.cap[school];
        if (k == LED_SHARE) return sums.share[school];
        int rank = rules.inForce(year, year * YEAR_DAYS).lineAt(k);
        return within(rank, STATEMENTS) ? sums.line[school * STATEMENTS + rank] : 0;
    }

    public long due(int school, int year) {
        if (!isSchool(school) || !isYear(year)) return NOTHING;
        if (!land.isOpen(school, year)) return 0;
        long right = sums.putRight(school, year);
        sums.reckon(year, year * YEAR_DAYS);
        return sums.whole[school] + right + moves.moved(school, year);
    }

    public long all(int year, int known) {
        if (!isYear(year) || !isDay(known)) return NOTHING;
        sums.reckon(year, known);
        long all = 0;
        for (int s = 0; s < SCHOOLS; s++) all += sums.whole[s];
        return all;
    }

    public int propose(int council, int from, int to, int coins, int year) {
        if (!within(council, COUNCILS) || !isSchool(from) || !isSchool(to) || from == to) return NONE;
        if (land.council[from] != council || land.council[to] != council) return NONE;
        if (coins < 1 || coins > MOST_COINS || !isLaterYear(year) || moves.count >= MOVES) return NONE;
        int number = moves.begin(council, year, today);
        moves.from[number] = from;
        moves.to[number] = to;
        moves.coins[number] = coins;
        return number;
    }

    public boolean object(int proposal, int school) {
        if (!within(proposal, moves.count) || !isSchool(school)) return false;
        if (moves.adopted[proposal] || moves.objects(proposal, school)) return false;
        if (!mayObject(proposal, school)) return false;
        moves.objected[proposal] |= 1 << school;
        return true;
    }

    public int adopt(int proposal) {
        if (!within(proposal, moves.count) || moves.adopted[proposal]) return 1;
        if (today < moves.told[proposal] + WAIT) return 2;
        if (today >= moves.year[proposal] * YEAR_DAYS) return 3;
        if (isObjected(proposal)) return 4;
        if (isTooMuch(proposal)) return 5;
        moves.adopted[proposal] = true;
        moves.adoptedCount++;
        return 0;
    }

    public long other(int school, int year) {
        if (aside == null || !isSchool(school) || !isYear(year)) return NOTHING;
        sums.reckonBy(aside, year, today);
        return sums.whole[school];
    }

    public int losers(int year) {
        if (aside == null || !isYear(year)) return NONE;
        sums.reckon(year, today);
        System.arraycopy(sums.whole, 0, sums.kept, 0, SCHOOLS);
        sums.reckonBy(aside, year, today);
        int losers = 0;
        for (int s = 0; s < SCHOOLS; s++) {
            if (sums.whole[s] < sums.kept[s]) losers++;
        }
        return losers;
    }

    public long edge(int school, int year, int what) {
        if (!isSchool(school) || !isYear(year) || !within(what, LOOKED_AT)) return NOTHING;
        if (!land.isOpen(school, year)) return NOTHING;
        sums.reckon(year, today);
        long as = sums.whole[school];
        sums.reckonWithOneMore(school, what, year, today);
        return sums.whole[school] - as;
    }

    public long rates(int year, int a, int b, int t, int what) {
        if (!isYear(year) || t < 0 || t > MOST_TOTAL || a == b || !within(what, 4)) return NOTHING;
        Law law = rules.inForce(year, today);
        if (!within(a, law.lines) || !within(b, law.lines)) return NOTHING;
        sums.reckon(year, today);
        Rates rates = new Rates(land, sums, year);
        rates.search(a, b, t);
        return rates.found ? rates.tells(what) : NOTHING;
    }

    public int foretold(int school, int age, int n, int what) {
        if (!isSchool(school) || !within(age, AGES) || n < 1 || n > MOST_AHEAD || !within(what, 3)) return NONE;
        int later = marks.latestYear(school, age, today / YEAR_DAYS, today);
        int earlier = marks.latestYear(school, age, later - 1, today);
        if (later < 0 || earlier < 0) return NONE;
        int heads = marks.held(school, later, age, today);
        int grown = heads - marks.held(school, earlier, age, today);
        int told = heads + n * grown;
        if (what == 1) told -= n * Math.abs(grown);
        if (what == 2) told += n * Math.abs(grown);
        return Math.max(0, told);
    }

    public int doubt(int school, int year) {
        if (!isSchool(school) || !isYear(year)) return NONE;
        int told = marks.toldBits(school, year, today);
        int best = told;
        for (int free = 0; free < 1 << MARK_KINDS; free++) {
            boolean fewer = Integer.bitCount(free) < Integer.bitCount(best);
            if ((free & ~told) == 0 && fewer && marks.canBe(school, year, today, told & ~free)) best = free;
        }
        return best;
    }

    public int count(int what) {
        switch (what) {
            case 0: return today;
            case 1: return land.schools;
            case 2: return land.openCount(today / YEAR_DAYS);
            case 3: return marks.count;
            case 4: return land.joins;
            case 5: return rules.count;
            case 6: return moves.count;
            case 7: return moves.adoptedCount;
            case 8: return taped;
            case 9: return aside == null ? 0 : 1;
            default: return NONE;
        }
    }

    private static boolean within(int x, int bound) {
        return x >= 0 && x < bound;
    }

    private static boolean isYear(int year) {
        return within(year, YEARS);
    }

    private static boolean isDay(int d) {
        return d >= 0 && d <= LAST_DAY;
    }

    private boolean isSchool(int s) {
        return within(s, land.schools);
    }

    private boolean isLaterYear(int year) {
        return isYear(year) && year > today / YEAR_DAYS;
    }

    private void tapeNumber(int number) {
        for (int shift = 24; shift >= 0; shift -= 8) {
            if (taped < TAPE) tape[taped++] = number >>> shift & 255;
        }
    }

    private boolean mayObject(int proposal, int school) {
        return land.council[school] == moves.council[proposal] && land.isOpen(school, today / YEAR_DAYS);
    }

    private boolean isObjected(int proposal) {
        int may = 0;
        int did = 0;
        for (int s = 0; s < land.schools; s++) {
            if (!mayObject(proposal, s)) continue;
            may++;
            if (moves.objects(proposal, s)) did++;
        }
        return 2 * did > may;
    }

    private boolean isTooMuch(int proposal) {
        int year = moves.year[proposal];
        int council = moves.council[proposal];
        Law law = rules.inForce(year, today);
        sums.reckon(year, today);
        long together = 0;
        for (int s = 0; s < land.schools; s++) {
            if (land.council[s] == council) together += sums.whole[s];
        }
        long coins = moves.adoptedCoins(council, year) + moves.coins[proposal];
        return coins > together * law.told[MOVE] / 100;
    }

    /** Roads between nodes, and the fewest miles by them, measured when they're asked for. */
    private static final class Roads {
        final int[] miles = new int[NODES * NODES];
        final int[] ways = new int[NODES * NODES];
        boolean measured;

        void lay(int a, int b, int m) {
            miles[a * NODES + b] = m;
            miles[b * NODES + a] = m;
            measured = false;
        }

        void measure() {
            for (int i = 0; i < NODES * NODES; i++) ways[i] = miles[i] > 0 ? miles[i] : NO_WAY;
            for (int i = 0; i < NODES; i++) ways[i * NODES + i] = 0;
            for (int over = 0; over < NODES; over++) {
                for (int a = 0; a < NODES; a++) {
                    for (int b = 0; b < NODES; b++) {
                        int round = ways[a * NODES + over] + ways[over * NODES + b];
                        ways[a * NODES + b] = Math.min(ways[a * NODES + b], round);
                    }
                }
            }
            measured = true;
        }
    }

    /** The schools, where they lie, and which of them took which. */
    private static final class Land {
        final int[] ward = new int[SCHOOLS];
        final int[] council = new int[SCHOOLS];
        final int[] node = new int[SCHOOLS];
        final int[] taker = new int[SCHOOLS];
        final int[] closes = new int[SCHOOLS];
        final int[] need = new int[WARDS];
        final Roads roads = new Roads();
        int schools;
        int joins;

        int found(int inWard, int ofCouncil, int atNode) {
            if (schools >= SCHOOLS) return NONE;
            ward[schools] = inWard;
            council[schools] = ofCouncil;
            node[schools] = atNode;
            taker[schools] = schools;
            closes[schools] = YEARS;
            return schools++;
        }

        boolean isOpen(int s, int year) {
            return s < schools && year < closes[s];
        }

        boolean isTaken(int s) {
            return closes[s] < YEARS;
        }

        int take(int by, int other, int year) {
            taker[other] = by;
            closes[other] = year;
            joins++;
            return joins;
        }

        /** The open school that a school's marks belong to in a year. */
        int holder(int s, int year) {
            int at = s;
            for (int i = 0; i < SCHOOLS && year >= closes[at]; i++) at = taker[at];
            return at;
        }

        int openCount(int year) {
            int open = 0;
            for (int s = 0; s < schools; s++) {
                if (isOpen(s, year)) open++;
            }
            return open;
        }

        int reach(int s, int year) {
            if (!roads.measured) roads.measure();
            int least = FARTHEST;
            for (int o = 0; o < schools; o++) {
                if (o != s && isOpen(o, year)) least = Math.min(least, roads.ways[node[s] * NODES + node[o]]);
            }
            return least;
        }
    }

    /** All marks told; those of one school, year and kind form a chain from the last told back. */
    private static final class Marks {
        final int[] value = new int[MARKS];
        final int[] told = new int[MARKS];
        final int[] before = new int[MARKS];
        final int[] latest = new int[SCHOOLS * YEARS * MARK_KINDS];
        int count;

        Marks() {
            Arrays.fill(latest, NONE);
        }

        int tell(int s, int year, int what, int v, int today) {
            if (count >= MARKS) return NONE;
            int key = (s * YEARS + year) * MARK_KINDS + what;
            value[count] = v;
            told[count] = today;
            before[count] = latest[key];
            latest[key] = count;
            return count++;
        }

        int held(int s, int year, int what, int known) {
            int at = latest[(s * YEARS + year) * MARK_KINDS + what];
            for (int i = 0; i < MARKS && at >= 0; i++) {
                if (told[at] <= known) return value[at];
                at = before[at];
            }
            return NONE;
        }

        /** The latest year up to one with such a mark; NONE without. */
        int latestYear(int s, int what, int upTo, int known) {
            for (int year = upTo; year >= 0; year--) {
                if (held(s, year, what, known) != NONE) return year;
            }
            return NONE;
        }

        int toldBits(int s, int year, int known) {
            int bits = 0;
            for (int what = 0; what < MARK_KINDS; what++) {
                if (held(s, year, what, known) != NONE) bits |= 1 << what;
            }
            return bits;
        }

        /** Whether the marks in bits can be, if the others may be anything from 0 on. */
        boolean canBe(int s, int year, int known, int bits) {
            int heads = 0;
            for (int what = 0; what < AGES; what++) {
                if ((bits & 1 << what) != 0) heads += held(s, year, what, known);
            }
            boolean agesTold = (bits & 7) == 7;
            boolean allTold = (bits & 32) != 0;
            if (!allTold && !agesTold) return true;
            int all = allTold ? held(s, year, 5, known) : heads;
            if (agesTold ? heads != all : heads > all) return false;
            if ((bits & 8) != 0 && held(s, year, 3, known) > all) return false;
            return (bits & 16) == 0 || held(s, year, 4, known) <= all;
        }
    }

    /** A formula as it was read: its code, where each line's begins, and what it sets. */
    private static final class Law {
        final int number;
        final int from;
        final int day;
        final int statements;
        final int lines;
        final int[] told;
        final int[] statementOf;
        final int[] starts;
        final int[] code;

        Law(Reader reader, int number, int from, int day) {
            this.number = number;
            this.from = from;
            this.day = day;
            statements = reader.statements;
            lines = reader.lines;
            told = reader.told.clone();
            statementOf = Arrays.copyOf(reader.statementOf, Math.max(0, reader.lines));
            starts = Arrays.copyOf(reader.starts, Math.max(0, 2 * reader.lines + 1));
            code = Arrays.copyOf(reader.code, Math.max(0, reader.steps));
        }

        int tells(int what) {
            if (what >= 0 && what < SHARE) return told[what];
            if (what == SHARE) return within(told[SHARE], lines) ? statementOf[told[SHARE]] : NONE;
            if (what == STATEMENT_COUNT) return statements;
            return what == WHICH_FORMULA ? number : NONE;
        }

        /** Which of the lines a statement is; NONE if it is no "line". */
        int lineAt(int statement) {
            for (int i = 0; i < lines && i < statementOf.length; i++) {
                if (statementOf[i] == statement) return i;
            }
            return NONE;
        }
    }

    /** The formulae taken. */
    private static final class Rules {
        final Law[] laws = new Law[LAWS];
        // Stands where none is in force, so that such a year goes the same way as any other.
        final Law empty;
        int count;

        Rules(Law empty) {
            this.empty = empty;
        }

        int take(Law law) {
            if (count >= LAWS) return NONE;
            laws[count] = law;
            return count++;
        }

        Law inForce(int year, int known) {
            Law best = empty;
            for (int i = 0; i < count; i++) {
                Law law = laws[i];
                if (law == null || law.day > known || law.from > year) continue;
                if (law.from >= best.from) best = law;
            }
            return best;
        }
    }

    /** Reads a text as a formula, or finds where it goes wrong. */
    private static final class Reader {
        final long[] keys = new long[KEY_END - KEY];
        final int[] code = new int[TAPE];
        final int[] starts = new int[2 * STATEMENTS + 1];
        final int[] statementOf = new int[STATEMENTS];
        final long[] names = new long[STATEMENTS];
        final int[] told = new int[SETTINGS];
        int steps;
        int lines;
        int statements;
        int[] text;
        int length;
        int at;
        int place;
        int token;
        int value;
        long name;
        int faultAt;

        Reader() {
            for (int k = 0; k < keys.length; k++) {
                for (int i = 0; i < NAME_LETTERS && k * NAME_LETTERS + i < KEYS.length(); i++) {
                    char letter = KEYS.charAt(k * NAME_LETTERS + i);
                    if (letter != ' ') keys[k] = keys[k] * 32 + letter - 'a' + 1;
                }
            }
            clear();
        }

        /** Leaves what a text without statements leaves. */
        private void clear() {
            at = 0;
            steps = 0;
            lines = 0;
            statements = 0;
            faultAt = NONE;
            Arrays.fill(told, NONE);
            told[MOVE] = 0;
            told[ORDER] = FLOOR;
        }

        /** The fault's place, or NONE; then the other fields hold what was read. */
        int read(int[] bytes, int n) {
            text = bytes;
            length = Math.min(n, bytes.length);
            clear();
            next();
            for (int i = 0; i < STATEMENTS && token != TEXT_END && faultAt == NONE; i++) {
                statement();
                statements++;
            }
            if (token != TEXT_END) fail();
            return faultAt;
        }

        /** Keeps the first fault's place; no rule goes on with the token that this leaves. */
        void fail() {
            if (faultAt == NONE) faultAt = place;
            token = NO_TOKEN;
        }

        void next() {
            if (token == NO_TOKEN && faultAt != NONE) return;
            for (int i = 0; i < TAPE && at < length && (text[at] == ' ' || text[at] == 10); i++) at++;
            place = at;
            if (at >= length) {
                token = TEXT_END;
                return;
            }
            int b = text[at];
            if (b >= 'a' && b <= 'z') {
                nextWord();
            } else if (b >= '0' && b <= '9') {
                nextNumber();
            } else {
                at++;
                token = isSign(b) ? b : NO_TOKEN;
            }
        }

        void nextWord() {
            name = 0;
            for (int i = 0; i < TAPE && at < length && text[at] >= 'a' && text[at] <= 'z'; i++) {
                if (i < NAME_LETTERS) name = name * 32 + text[at] - 'a' + 1;
                at++;
            }
            token = at - place > NAME_LETTERS ? NO_TOKEN : NAME;
            for (int k = 0; k < keys.length && token == NAME; k++) {
                if (keys[k] == name) token = KEY + k;
            }
        }

        void nextNumber() {
            value = 0;
            for (int i = 0; i < TAPE && at < length && text[at] >= '0' && text[at] <= '9'; i++) {
                if (i < DIGITS) value = value * 10 + text[at] - '0';
                at++;
            }
            token = at - place > DIGITS ? NO_TOKEN : NUMBER;
        }

        static boolean isSign(int b) {
            switch (b) {
                case '=': case ';': case '+': case '-': case '*': case '/': case '(':
                case ')': case ',': case '{': case '}': case '<': case '>': return true;
                default: return false;
            }
        }

        void expect(int due) {
            if (token == due) next();
            else fail();
        }

        void statement() {
            switch (token) {
                case KEY_LINE: line(); break;
                case KEY_FLOOR: setting(FLOOR, 1000); break;
                case KEY_CAP: setting(CAP, 1000); break;
                case KEY_TOTAL: setting(TOTAL, MOST_COINS); break;
                case KEY_MOVE: setting(MOVE, 100); break;
                case KEY_ORDER: order(); break;
                case KEY_SHARE: share(); break;
                default: fail();
            }
            expect(';');
        }

        void setting(int which, int most) {
            next();
            if (token == NUMBER && value <= most) {
                told[which] = value;
                next();
            } else {
                fail();
            }
        }

        void order() {
            next();
            if (token == KEY_FLOOR || token == KEY_CAP) {
                told[ORDER] = token == KEY_FLOOR ? FLOOR : CAP;
                next();
            } else {
                fail();
            }
        }

        void share() {
            next();
            int rank = lineNamed();
            if (rank == NONE) {
                fail();
                return;
            }
            told[SHARE] = rank;
            next();
        }

        /** Which line ahead has the token's name. */
        int lineNamed() {
            if (token != NAME) return NONE;
            for (int i = 0; i < lines && i < STATEMENTS; i++) {
                if (names[i] == name) return i;
            }
            return NONE;
        }

        void line() {
            next();
            if (token != NAME || lineNamed() != NONE || lines >= STATEMENTS) {
                fail();
                return;
            }
            names[lines] = name;
            statementOf[lines] = statements;
            starts[2 * lines] = steps;
            next();
            expect('=');
            ex(0);
            starts[2 * lines + 1] = steps;
            if (token == KEY_IF) {
                next();
                cond(0);
            }
            starts[2 * lines + 2] = steps;
            // Its name is no line ahead until here.
            lines++;
        }

        void step(int kind, int with) {
            if (steps < TAPE) code[steps++] = with * STEP + kind;
        }

        private void ex(int open) {
            prod(open);
            for (int i = 0; i < TAPE && (token == '+' || token == '-'); i++) {
                int kind = token == '+' ? ADD : TAKE;
                next();
                prod(open);
                step(kind, 0);
            }
        }

        private void prod(int open) {
            atom(open);
            for (int i = 0; i < TAPE && (token == '*' || token == '/'); i++) {
                int kind = token == '*' ? TIMES : PARTED;
                next();
                atom(open);
                step(kind, 0);
            }
        }

        private void atom(int open) {
            int rank = lineNamed();
            if (token == NUMBER) {
                step(PUSH_NUMBER, value);
                next();
            } else if (token >= KEY_WORD && token < KEY_END) {
                step(PUSH_WORD, token - KEY_WORD);
                next();
            } else if (rank != NONE) {
                step(PUSH_LINE, rank);
                next();
            } else if (token == '(' && open < OPENS) {
                next();
                ex(open + 1);
                expect(')');
            } else if ((token == KEY_MIN || token == KEY_MAX) && open < OPENS) {
                int kind = token == KEY_MIN ? LEAST : MOST;
                next();
                expect('(');
                ex(open + 1);
                expect(',');
                ex(open + 1);
                expect(')');
                step(kind, 0);
            } else {
                fail();
            }
        }

        private void cond(int open) {
            every(open);
            for (int i = 0; i < TAPE && token == KEY_OR; i++) {
                next();
                every(open);
                step(OR, 0);
            }
        }

        private void every(int open) {
            one(open);
            for (int i = 0; i < TAPE && token == KEY_AND; i++) {
                next();
                one(open);
                step(AND, 0);
            }
        }

        private void one(int open) {
            if (token == KEY_NOT || token == '{') {
                boolean not = token == KEY_NOT;
                if (open >= OPENS) {
                    fail();
                    return;
                }
                next();
                if (not) {
                    one(open + 1);
                    step(NOT, 0);
                } else {
                    cond(open + 1);
                    expect('}');
                }
                return;
            }
            ex(open);
            int kind = token == '<' ? BELOW : token == '>' ? ABOVE : SAME;
            if (kind == SAME) expect('=');
            else next();
            ex(open);
            step(kind, 0);
        }
    }

    /** Works out a formula's code from words and the lines ahead. */
    private static final class Mill {
        final long[] words = new long[WORDS];
        final long[] stack = new long[STACK];

        /** What the steps from one to another come to; lines ahead stand in line from first on. */
        long run(Law law, int from, int to, long[] line, int first) {
            int top = 0;
            for (int i = Math.max(0, from); i < to && i < law.code.length; i++) {
                int kind = law.code[i] % STEP;
                int with = law.code[i] / STEP;
                if (kind <= PUSH_LINE) {
                    if (top >= STACK) return 0;
                    stack[top++] = pushed(kind, with, line, first);
                } else if (kind == NOT) {
                    if (top < 1) return 0;
                    stack[top - 1] = 1 - stack[top - 1];
                } else {
                    if (top < 2) return 0;
                    top--;
                    stack[top - 1] = both(kind, stack[top - 1], stack[top]);
                }
            }
            return top == 1 ? stack[0] : 0;
        }

        long pushed(int kind, int with, long[] line, int first) {
            if (kind == PUSH_NUMBER) return with;
            if (kind == PUSH_WORD) return with < WORDS ? words[with] : 0;
            return first + with < line.length ? line[first + with] : 0;
        }

        static long both(int kind, long a, long b) {
            switch (kind) {
                case ADD: return Math.max(-HELD, Math.min(HELD, a + b));
                case TAKE: return Math.max(-HELD, Math.min(HELD, a - b));
                case TIMES: return Math.max(-HELD, Math.min(HELD, a * b));
                case PARTED: return b == 0 ? 0 : a / b;
                case LEAST: return Math.min(a, b);
                case MOST: return Math.max(a, b);
                case BELOW: return a < b ? 1 : 0;
                case ABOVE: return a > b ? 1 : 0;
                case SAME: return a == b ? 1 : 0;
                case AND: return a & b;
                case OR: return a | b;
                default: return 0;
            }
        }
    }

    /** The sums of all schools for a year as known by a day, and the lines that they're made of. */
    private static final class Sums {
        final Land land;
        final Marks marks;
        final Rules rules;
        final Mill mill = new Mill();
        final long[] line = new long[SCHOOLS * STATEMENTS];
        final long[] bare = new long[SCHOOLS];
        final long[] floor = new long[SCHOOLS];
        final long[] cap = new long[SCHOOLS];
        final long[] share = new long[SCHOOLS];
        final long[] part = new long[SCHOOLS];
        final long[] last = new long[SCHOOLS];
        final long[] whole = new long[SCHOOLS];
        final long[] kept = new long[SCHOOLS];
        final int[] holder = new int[SCHOOLS];
        // Each year's sums as known by the day on which the next one begins: what LAST is made of.
        final long[] past = new long[YEARS * SCHOOLS];
        int pastYears;
        // The heads that LAST went by, of the school whose words stand in the mill.
        long then;
        int moreSchool = NONE;
        int moreMark = NONE;

        Sums(Land land, Marks marks, Rules rules) {
            this.land = land;
            this.marks = marks;
            this.rules = rules;
        }

        /** To be called when anything that sums are made of is about to change. */
        void forget() {
            pastYears = 0;
        }

        void reckon(int year, int known) {
            prepare(year);
            deal(rules.inForce(year, known), year, known);
        }

        void reckonBy(Law law, int year, int known) {
            prepare(year);
            deal(law, year, known);
        }

        void reckonWithOneMore(int s, int what, int year, int known) {
            prepare(year);
            moreSchool = s;
            moreMark = what;
            deal(rules.inForce(year, known), year, known);
            moreSchool = NONE;
        }

        void prepare(int year) {
            for (int y = pastYears; y < year && y < YEARS; y++) {
                int known = (y + 1) * YEAR_DAYS;
                deal(rules.inForce(y, known), y, known);
                System.arraycopy(whole, 0, past, y * SCHOOLS, SCHOOLS);
                pastYears = y + 1;
            }
        }

        void deal(Law law, int year, int known) {
            Arrays.fill(line, 0);
            Arrays.fill(bare, 0);
            Arrays.fill(floor, 0);
            Arrays.fill(cap, 0);
            Arrays.fill(share, 0);
            Arrays.fill(part, 0);
            Arrays.fill(last, 0);
            for (int s = 0; s < land.schools; s++) holder[s] = land.holder(s, year);
            for (int s = 0; s < land.schools; s++) {
                if (!land.isOpen(s, year)) continue;
                gather(s, year, known);
                workOut(law, s);
                bound(law, s);
            }
            if (law.told[TOTAL] >= 0) partOut(law.told[TOTAL]);
            for (int s = 0; s < SCHOOLS; s++) whole[s] = bare[s] + floor[s] + cap[s] + share[s];
        }

        /** Sets the words of a school, and what its BASE is made of. */
        void gather(int s, int year, int known) {
            int ahead = Math.max(0, year - 1);
            for (int what = 0; what < LOOKED_AT; what++) {
                long v = together(s, ahead, what, known);
                if (s == moreSchool && what == moreMark) v++;
                mill.words[what < HEADS ? what : what + 1] = v;
            }
            mill.words[HEADS] = mill.words[0] + mill.words[1] + mill.words[2];
            mill.words[NEED] = land.need[land.ward[s]];
            mill.words[FAR] = land.reach(s, year);
            last[s] = lastOf(s, year);
            mill.words[LAST] = Math.max(-HELD, Math.min(HELD, last[s]));
            mill.words[WARD] = land.ward[s];
            then = 0;
            for (int what = 0; what < AGES && year > 0; what++) {
                then += together(s, Math.max(0, year - 2), what, year * YEAR_DAYS);
            }
        }

        /** A kind's marks of a year, of all that are the school's now. */
        long together(int s, int ahead, int what, int known) {
            long together = 0;
            for (int m = 0; m < land.schools; m++) {
                if (holder[m] == s) together += Math.max(0, marks.held(m, ahead, what, known));
            }
            return together;
        }

        long lastOf(int s, int year) {
            if (year < 1 || year > YEARS) return 0;
            long together = 0;
            for (int m = 0; m < land.schools; m++) {
                if (holder[m] == s) together += past[(year - 1) * SCHOOLS + m];
            }
            return together;
        }

        void workOut(Law law, int s) {
            int first = s * STATEMENTS;
            for (int i = 0; i < law.lines; i++) {
                int cond = law.starts[2 * i + 1];
                int end = law.starts[2 * i + 2];
                boolean holds = cond == end || mill.run(law, cond, end, line, first) != 0;
                line[first + i] = holds ? mill.run(law, law.starts[2 * i], cond, line, first) : 0;
                bare[s] += line[first + i];
            }
            part[s] = within(law.told[SHARE], law.lines) ? line[first + law.told[SHARE]] : mill.words[HEADS];
            part[s] = Math.max(0, part[s]);
        }

        /** Floor and cap, in their order. */
        void bound(Law law, int s) {
            if (last[s] == 0 || then == 0) return;
            long base = Math.max(-BASE_HELD, Math.min(BASE_HELD, last[s] * mill.words[HEADS] / then));
            if (law.told[ORDER] == FLOOR) {
                lift(law, s, base);
                press(law, s, base);
            } else {
                press(law, s, base);
                lift(law, s, base);
            }
        }

        void lift(Law law, int s, long base) {
            long least = base * law.told[FLOOR] / 100;
            long lacks = least - bare[s] - cap[s];
            if (law.told[FLOOR] >= 0 && lacks > 0) floor[s] = lacks;
        }

        void press(Law law, int s, long base) {
            long most = base * law.told[CAP] / 100;
            long lacks = most - bare[s] - floor[s];
            if (law.told[CAP] >= 0 && lacks < 0) cap[s] = lacks;
        }

        void partOut(long total) {
            long rest = total;
            long parts = 0;
            for (int s = 0; s < SCHOOLS; s++) {
                rest -= bare[s] + floor[s] + cap[s];
                parts += part[s];
            }
            if (parts <= 0) return;
            long left = rest;
            for (int s = 0; s < SCHOOLS; s++) {
                // The rest times a part may be too much for a long; this is the same, cut once.
                share[s] = rest / parts * part[s] + rest % parts * part[s] / parts;
                left -= share[s];
            }
            long coin = left > 0 ? 1 : -1;
            for (int i = 0; i < SCHOOLS * SCHOOLS && left != 0; i++) {
                int s = i % SCHOOLS;
                if (part[s] <= 0) continue;
                share[s] += coin;
                left -= coin;
            }
        }

        /** The year ahead's sum as known by this year's beginning less what it was dealt by. */
        long putRight(int s, int year) {
            if (year < 1) return 0;
            int dealt = (year - 1) * YEAR_DAYS;
            prepare(year);
            deal(rules.inForce(year - 1, dealt), year - 1, dealt);
            long right = 0;
            for (int m = 0; m < land.schools; m++) {
                if (land.holder(m, year) == s) right += past[(year - 1) * SCHOOLS + m] - whole[m];
            }
            return right;
        }
    }

    /** Proposals to move a part between two schools of a council. */
    private static final class Moves {
        final int[] council = new int[MOVES];
        final int[] from = new int[MOVES];
        final int[] to = new int[MOVES];
        final int[] coins = new int[MOVES];
        final int[] year = new int[MOVES];
        final int[] told = new int[MOVES];
        final int[] objected = new int[MOVES];
        final boolean[] adopted = new boolean[MOVES];
        int count;
        int adoptedCount;

        int begin(int of, int forYear, int today) {
            if (count >= MOVES) return NONE;
            council[count] = of;
            year[count] = forYear;
            told[count] = today;
            return count++;
        }

        boolean objects(int p, int s) {
            return (objected[p] & 1 << s) != 0;
        }

        long adoptedCoins(int of, int forYear) {
            long together = 0;
            for (int p = 0; p < count; p++) {
                if (adopted[p] && council[p] == of && year[p] == forYear) together += coins[p];
            }
            return together;
        }

        long moved(int s, int forYear) {
            long moved = 0;
            for (int p = 0; p < count; p++) {
                if (!adopted[p] || year[p] != forYear) continue;
                if (to[p] == s) moved += coins[p];
                if (from[p] == s) moved -= coins[p];
            }
            return moved;
        }
    }

    /** The search for two lines' rates that leave the fewest losers. */
    private static final class Rates {
        final Land land;
        final Sums sums;
        final int year;
        boolean found;
        long losers;
        long together;
        int tenthsA;
        int tenthsB;

        Rates(Land land, Sums sums, int year) {
            this.land = land;
            this.sums = sums;
            this.year = year;
        }

        /** Goes by a's tenths, then b's, so that of equal pairs the first is the one to keep. */
        void search(int a, int b, long most) {
            for (int ra = 0; ra <= TENTHS; ra++) {
                for (int rb = 0; rb <= TENTHS; rb++) weigh(a, b, ra, rb, most);
            }
        }

        void weigh(int a, int b, int ra, int rb, long most) {
            long sum = 0;
            int worse = 0;
            for (int s = 0; s < land.schools; s++) {
                if (!land.isOpen(s, year)) continue;
                long lineA = sums.line[s * STATEMENTS + a];
                long lineB = sums.line[s * STATEMENTS + b];
                long bare = sums.bare[s] - lineA - lineB + lineA * ra / 10 + lineB * rb / 10;
                sum += bare;
                if (bare < sums.last[s]) worse++;
            }
            if (sum > most) return;
            if (found && (worse > losers || worse == losers && sum <= together)) return;
            found = true;
            losers = worse;
            together = sum;
            tenthsA = ra;
            tenthsB = rb;
        }

        long tells(int what) {
            switch (what) {
                case 0: return losers;
                case 1: return together;
                case 2: return tenthsA;
                default: return tenthsB;
            }
        }
    }
}
