import java.util.Arrays;

/** A floor of sixty four tiles, the parties who leap on it, the texts that rule them, and what can be told of it all. */
public final class TilesOfLaw {
    public static final int NONE = -1, BAD = -2, STATE = -3, FULL = -4;
    public static final long NO = -4611686018427387904L;

    private static final int NOTHING_THERE = -11, OUTSIDE = -12, OTHER_SORT = -13, SIZE_BELOW_0 = -14;
    private static final int NONE_TOLD = -1000, FAULT_BASE = -100;

    private static final int TILES = 64, MOST_PARTIES = 5, KINDS = 6, WAYS = 8;
    private static final int LAST_MINUTE = 999, MOST_WEARY = 99, MOST_NUMBER = 9;
    private static final int MOST_THOUGHT = 40, MOST_MEETING = 60, MOST_BEST = 20, MOST_LEAPS = 63;
    private static final int MOST_SEEDS = 40, LEAPS_OF_CHANCE = 8;
    private static final int MOST_TAPE = 160, MOST_TEXTS = 6, MOST_OPEN = 5, MOST_DIGITS = 4;
    // Five values at most wait in each of MOST_OPEN + 1 nested E's, and one more is at work.
    private static final int STACK = 40;
    private static final int SHEETS = 4, MOST_CELLS = 40, MOST_FILMED = 20;
    private static final int MISSING = -1, BYTES = 0, SHORTS = 1, INTS = 2;

    private static final int PARTY = 0, ADVOCATE = 1, CLERK = 2, ROBED = 3, OLD = 4, WASHER = 5;
    private static final int[] UNDER = {NONE, PARTY, PARTY, ADVOCATE, CLERK, PARTY};
    private static final int[] PARTY_COLUMNS = {1, 2, 2, 1, -1, -2, -2, -1};
    private static final int[] PARTY_ROWS = {2, 1, -1, -2, -2, -1, 1, 2};
    private static final int[] ADVOCATE_COLUMNS = {2, 2, -2, -2, -1, -2, -2, -1};
    private static final int[] ADVOCATE_ROWS = {2, -2, -2, 2, -2, -1, 1, 2};
    private static final int[] CLERK_COLUMNS = {0, 0, 1, 0, 0, 0, -1, 0};
    private static final int[] CLERK_ROWS = {1, 0, 0, 0, -1, 0, 0, 0};

    private static final int WHITE_FOUND = 0, BLACK_FOUND = 1, RED_FOUND = 2;

    private static final int TURNS = 0, TIRES = 1, RESTS = 2;
    private static final String FIRST_RULE = "turns minute + number ; tires 3 ; rests 2 ;";

    // A text's code is in postfix order: a number of 0 or more stands for itself, one below 0 is one of these.
    private static final int WEARY = -1, COLUMN = -2, ROW = -3, NUMBER = -4, MINUTE = -5, WORN = -6;
    private static final int NOT = -7, NEGATED = -8;
    private static final int OR = -9, AND = -10, BELOW = -11, LIKE = -12, PLUS = -13, MINUS = -14, TIMES = -15;

    // A token of the tape: a sign is its own byte, a NAME its instruction above, and the others are these.
    private static final int END = 256, DIGITS = 257, FOREIGN = 258;
    private static final int KEY_TURNS = 259, KEY_TIRES = 260, KEY_RESTS = 261;
    private static final int KEY_OR = 262, KEY_AND = 263, KEY_NOT = 264;

    private final Floor now, thought, later, kept;
    private final Law law;
    private final Reader reader;
    private final Sheet[] sheets;
    private boolean hasImage;

    public TilesOfLaw() {
        now = new Floor();
        thought = new Floor();
        later = new Floor();
        kept = new Floor();
        law = new Law();
        reader = new Reader();
        sheets = new Sheet[SHEETS];
        for (int k = 0; k < SHEETS; k++) {
            sheets[k] = new Sheet();
        }
        for (int k = 0; k < FIRST_RULE.length(); k++) {
            reader.takeIn(FIRST_RULE.charAt(k));
        }
        law.add(reader.readText());
        reader.clear();
    }

    // ---- tiles, parties

    public int set(int what, int of, int v) {
        if (!canSet(what, of, v)) {
            return BAD;
        }
        int was = told(of, what);
        long bit = 1L << of;
        switch (what) {
            case 0:
                now.minute = v;
                break;
            case 1:
                now.red = v == 1 ? now.red | bit : now.red & ~bit;
                break;
            case 2:
                now.hollow = v == 1 ? now.hollow | bit : now.hollow & ~bit;
                break;
            case 3:
                now.number[of] = v;
                break;
            case 4:
                now.on[of] = v;
                break;
            default:
                now.weary[of] = v;
                break;
        }
        return was;
    }

    private boolean canSet(int what, int of, int v) {
        switch (what) {
            case 0:
                return isWithin(v, LAST_MINUTE);
            case 1:
                return isTile(of) && isWithin(v, 1);
            case 2:
                return isTile(of) && isWithin(v, 1) && now.whoIsOn(of) == 0;
            case 3:
                return isParty(of) && isWithin(v, MOST_NUMBER);
            case 4:
                return isParty(of) && isTile(v) && !now.isHollow(v);
            case 5:
                return isParty(of) && isWithin(v, MOST_WEARY);
            default:
                return false;
        }
    }

    public int party(int kind, int number, int on) {
        if (!isKind(kind) || !isWithin(number, MOST_NUMBER) || !isTile(on) || now.isHollow(on)) {
            return BAD;
        }
        int one = now.parties;
        if (one >= MOST_PARTIES) {
            return FULL;
        }
        now.kind[one] = kind;
        now.number[one] = number;
        now.on[one] = on;
        now.weary[one] = 0;
        now.parties = one + 1;
        return one;
    }

    public int told(int of, int what) {
        if (what == 0) {
            return now.minute;
        }
        if (what == 1 || what == 2 || what == 11) {
            return isTile(of) ? toldOfTile(of, what) : NONE_TOLD;
        }
        return isParty(of) ? toldOfParty(of, what) : NONE_TOLD;
    }

    private int toldOfTile(int tile, int what) {
        if (what == 1) {
            return now.isRed(tile) ? 1 : 0;
        }
        if (what == 2) {
            return now.isHollow(tile) ? 1 : 0;
        }
        return now.whoIsOn(tile);
    }

    private int toldOfParty(int one, int what) {
        switch (what) {
            case 3:
                return now.number[one];
            case 4:
                return now.on[one];
            case 5:
                return now.weary[one];
            case 6:
                return now.kind[one];
            case 7:
                return law.wayOf(now, one);
            case 8:
                return law.tiresOf(now, one);
            case 9:
                return law.restsOf(now, one);
            case 10:
                return now.foundOf(one);
            default:
                return NONE_TOLD;
        }
    }

    public int leap(int one, int way) {
        if (!isParty(one) || !isWithin(way, WAYS - 1)) {
            return BAD;
        }
        return now.landing(one, now.on[one], way);
    }

    public long floor(int what) {
        if (what == 0) {
            return now.red;
        }
        if (what == 1) {
            return now.hollow;
        }
        return what == 2 ? now.stoodOn() : NO;
    }

    // ---- texts

    public int feed(int letter) {
        if (!isWithin(letter, 255)) {
            return BAD;
        }
        return reader.takeIn(letter) ? reader.size : FULL;
    }

    public int text() {
        if (law.size >= MOST_TEXTS) {
            return FULL;
        }
        Text text = reader.readText();
        reader.clear();
        if (text == null) {
            return FAULT_BASE - reader.fault;
        }
        return law.add(text);
    }

    public int force(int text) {
        if (!isText(text)) {
            return BAD;
        }
        int was = now.rule;
        now.rule = text;
        return was;
    }

    // ---- minutes, calls

    public int minute() {
        if (now.minute >= LAST_MINUTE) {
            return STATE;
        }
        return law.passMinutes(now, 1, NONE);
    }

    public int run(int one, int n, int what) {
        if (!isParty(one) || !isWithin(n, MOST_THOUGHT) || !isWithin(what, 3)) {
            return BAD;
        }
        thought.become(now);
        law.passMinutes(thought, n, NONE);
        if (what == 0) {
            return thought.on[one];
        }
        if (what == 1) {
            return thought.weary[one];
        }
        return what == 2 ? thought.foundOf(one) : thought.howManyFound(BLACK_FOUND);
    }

    public int call(int f, int n, int what) {
        if (!isWithin(f, RED_FOUND) || !isWithin(n, MOST_THOUGHT) || !isWithin(what, 1)) {
            return BAD;
        }
        thought.become(now);
        int first = 0;
        int most = thought.howManyFound(f);
        for (int k = 1; k <= n; k++) {
            law.passMinutes(thought, 1, NONE);
            int found = thought.howManyFound(f);
            if (found > most) {
                most = found;
                first = k;
            }
        }
        return what == 0 ? first : most;
    }

    public int meet(int one, int other) {
        if (!isParty(one) || !isParty(other) || one == other) {
            return BAD;
        }
        thought.become(now);
        for (int k = 0; k <= MOST_MEETING; k++) {
            if (thought.on[one] == thought.on[other]) {
                return k;
            }
            law.passMinutes(thought, 1, NONE);
        }
        return NONE;
    }

    // ---- what would be best

    public long reached(int one, int n) {
        if (!isParty(one) || !isWithin(n, MOST_LEAPS)) {
            return NO;
        }
        long tiles = 1L << now.on[one];
        for (int k = 0; k < n; k++) {
            tiles = now.aLeapFurther(one, tiles);
        }
        return tiles;
    }

    public int fewest(int one, int tile) {
        if (!isParty(one) || !isTile(tile)) {
            return BAD;
        }
        long tiles = 1L << now.on[one];
        for (int k = 0; k <= MOST_LEAPS; k++) {
            if (isIn(tiles, tile)) {
                return k;
            }
            tiles = now.aLeapFurther(one, tiles);
        }
        return NONE;
    }

    public int best(int f, int n, int what) {
        if (!isWithin(f, RED_FOUND) || n < 1 || n > MOST_BEST || !isWithin(what, 5)) {
            return BAD;
        }
        later.become(now);
        law.passMinutes(later, n, NONE);
        int best = NONE;
        int most = later.howManyFound(f);
        int choices = what < 2 ? now.parties : TILES;
        for (int choice = 0; choice < choices; choice++) {
            int found = what < 2 ? foundWithOneStill(f, n, choice)
                : what < 4 ? foundWithRed(f, choice) : foundWithHollow(f, n, choice);
            if (found > most) {
                most = found;
                best = choice;
            }
        }
        return what % 2 == 0 ? best : most;
    }

    private int foundWithOneStill(int f, int n, int one) {
        thought.become(now);
        law.passMinutes(thought, n, one);
        return thought.howManyFound(f);
    }

    // Nothing that anybody does hangs on RED, so that the minutes that passed for later pass likewise.
    private int foundWithRed(int f, int tile) {
        if (now.isRed(tile) || now.isHollow(tile)) {
            return NONE;
        }
        later.red = now.red | 1L << tile;
        return later.howManyFound(f);
    }

    private int foundWithHollow(int f, int n, int tile) {
        if (now.isHollow(tile) || now.whoIsOn(tile) != 0) {
            return NONE;
        }
        thought.become(now);
        thought.hollow |= 1L << tile;
        law.passMinutes(thought, n, NONE);
        return thought.howManyFound(f);
    }

    public long mean(int part) {
        if (!isWithin(part, 1) || now.parties < 1) {
            return NO;
        }
        int sum = 0;
        for (int one = 0; one < now.parties; one++) {
            sum += now.weary[one];
        }
        return inLowestTerms(sum, now.parties, part);
    }

    // ---- tiles that were told

    public int tells(int sheet, int one, int what) {
        Sheet told = sheetAt(sheet);
        if (told == null || !isParty(one) || !isWithin(what, 6)) {
            return BAD;
        }
        if (told.sort == MISSING) {
            return NOTHING_THERE;
        }
        if (told.size > MOST_FILMED) {
            return BAD;
        }
        if (what == 0) {
            thought.become(now);
            return firstOtherwise(told, one);
        }
        return what == 3 || what == 4 ? wearyTold(told, one, what) : bitsTold(told, one, what);
    }

    private int wearyTold(Sheet told, int one, int what) {
        int many = 0;
        int least = NONE;
        for (int v = 0; v <= MOST_WEARY; v++) {
            thought.become(now);
            thought.weary[one] = v;
            if (firstOtherwise(told, one) == NONE) {
                many++;
                least = least == NONE ? v : least;
            }
        }
        return what == 3 ? many : least;
    }

    private int bitsTold(Sheet told, int one, int what) {
        int bits = 0;
        int choices = what == 1 ? KINDS : what == 2 ? MOST_NUMBER + 1 : what == 5 ? law.size : now.parties;
        for (int choice = 0; choice < choices; choice++) {
            thought.become(now);
            if (what == 1) {
                thought.kind[one] = choice;
            } else if (what == 2) {
                thought.number[one] = choice;
            } else if (what == 5) {
                thought.rule = choice;
            }
            if (firstOtherwise(told, what == 6 ? choice : one) == NONE) {
                bits |= 1 << choice;
            }
        }
        return bits;
    }

    // From thought as it stands: one walks alone in it, for nobody's walk hangs on another's.
    private int firstOtherwise(Sheet told, int one) {
        for (int k = 0; k < told.size; k++) {
            law.passOne(thought, one, false);
            thought.minute++;
            if (told.items[k] != thought.on[one]) {
                return k;
            }
        }
        return NONE;
    }

    public long stood(int sheet, int one) {
        Sheet told = sheetAt(sheet);
        if (told == null || !isParty(one) || told.sort == MISSING || told.size > MOST_FILMED) {
            return NO;
        }
        long tiles = 0;
        for (int tile = 0; tile < TILES; tile++) {
            thought.become(now);
            thought.on[one] = tile;
            if (!now.isHollow(tile) && firstOtherwise(told, one) == NONE) {
                tiles |= 1L << tile;
            }
        }
        return tiles;
    }

    public int film(int sheet, int one, int n) {
        Sheet film = sheetAt(sheet);
        if (film == null || !isParty(one) || !isWithin(n, MOST_FILMED)) {
            return BAD;
        }
        film.become(BYTES, n);
        thought.become(now);
        for (int k = 0; k < n; k++) {
            law.passOne(thought, one, false);
            thought.minute++;
            film.put(k, thought.on[one]);
        }
        return n;
    }

    public int drawn(int seed, int one, int n) {
        if (!isParty(one) || !isWithin(n, MOST_THOUGHT)) {
            return BAD;
        }
        return now.whereDrawn(seed, one, n);
    }

    public long chance(int seed, int m, int one, int part) {
        if (m < 1 || m > MOST_SEEDS || !isParty(one) || !isWithin(part, 1)) {
            return NO;
        }
        int black = 0;
        for (int k = 0; k < m; k++) {
            if (now.isFoundBy(now.whereDrawn(seed + k, one, LEAPS_OF_CHANCE)) == BLACK_FOUND) {
                black++;
            }
        }
        return inLowestTerms(black, m, part);
    }

    public int image() {
        kept.become(now);
        hasImage = true;
        return kept.parties;
    }

    public int back() {
        if (!hasImage) {
            return STATE;
        }
        now.become(kept);
        return now.parties;
    }

    public int count(int what) {
        switch (what) {
            case 0:
                return now.parties;
            case 1:
                return Long.bitCount(now.hollow);
            case 2:
                return now.minute;
            case 3:
                return law.size;
            case 4:
                return reader.size;
            case 5:
                return now.rule;
            default:
                return BAD;
        }
    }

    // ---- the host

    public int sheet(int sheet, int sort, int n) {
        Sheet row = sheetAt(sheet);
        if (row == null || sort < MISSING || sort > INTS) {
            return BAD;
        }
        if (sort == MISSING) {
            row.become(MISSING, 0);
            return 1;
        }
        if (n > MOST_CELLS) {
            return BAD;
        }
        if (n < 0) {
            return SIZE_BELOW_0;
        }
        row.become(sort, n);
        return 1;
    }

    public int cell(int sheet, int i, int v) {
        Sheet row = sheetAt(sheet);
        if (row == null) {
            return BAD;
        }
        if (row.sort == MISSING) {
            return NOTHING_THERE;
        }
        return row.put(i, v) ? 1 : OUTSIDE;
    }

    public int copy(int sheet, int i, int other, int j, int n) {
        Sheet from = sheetAt(sheet);
        Sheet to = sheetAt(other);
        if (from == null || to == null) {
            return BAD;
        }
        if (from.sort == MISSING || to.sort == MISSING) {
            return NOTHING_THERE;
        }
        if (from.sort != to.sort) {
            return OTHER_SORT;
        }
        if (!from.has(i, n) || !to.has(j, n)) {
            return OUTSIDE;
        }
        System.arraycopy(from.items, i, to.items, j, n);
        return n;
    }

    public int suits(int sheet, int sort, int from, int n) {
        Sheet row = sheetAt(sheet);
        if (row == null || !isWithin(sort, INTS) || !isWithin(n, MOST_PARTIES)) {
            return BAD;
        }
        if (row.sort == MISSING) {
            return NOTHING_THERE;
        }
        if (row.sort != sort) {
            return OTHER_SORT;
        }
        int came = 0;
        for (int k = 0; k < n; k++) {
            // A place outside ends this at the first k, so that none of these sums wraps.
            int at = from + 3 * k;
            if (!row.has(at, 3)) {
                return OUTSIDE;
            }
            if (party(row.items[at], row.items[at + 1], row.items[at + 2]) >= 0) {
                came++;
            }
        }
        return came;
    }

    public int taken(int one, int k) {
        if (!isKind(k)) {
            return BAD;
        }
        if (!isParty(one)) {
            return NOTHING_THERE;
        }
        int kind = now.kind[one];
        for (int step = 0; step < KINDS && isKind(kind); step++) {
            if (kind == k) {
                return now.number[one];
            }
            kind = UNDER[kind];
        }
        return OTHER_SORT;
    }

    // ---- what numbers are such

    private static boolean isWithin(int v, int most) {
        return v >= 0 && v <= most;
    }

    private static boolean isTile(int tile) {
        return isWithin(tile, TILES - 1);
    }

    private static boolean isKind(int kind) {
        return isWithin(kind, KINDS - 1);
    }

    private static boolean isIn(long tiles, int tile) {
        return (tiles >>> tile & 1) != 0;
    }

    private boolean isParty(int one) {
        return isWithin(one, now.parties - 1);
    }

    private boolean isText(int text) {
        return isWithin(text, law.size - 1);
    }

    private Sheet sheetAt(int sheet) {
        return isWithin(sheet, SHEETS - 1) ? sheets[sheet] : null;
    }

    private static int bounded(int v, int least, int most) {
        return Math.max(least, Math.min(most, v));
    }

    // One part of above by below (1 or more): 0 is what is above the line, 1 what is below.
    private static long inLowestTerms(int above, int below, int part) {
        int common = below;
        int rest = above;
        // Each two rounds halve the greater of two ints at least.
        for (int k = 0; k < 64 && rest != 0; k++) {
            int next = common % rest;
            common = rest;
            rest = next;
        }
        return (part == 0 ? above : below) / Math.max(1, common);
    }

    /** All that an image keeps, and the kinds: the true floor, one in thought, or one that was kept. */
    private static final class Floor {
        long red, hollow;
        int minute, parties, rule;
        final int[] kind, number, on, weary;

        Floor() {
            kind = new int[MOST_PARTIES];
            number = new int[MOST_PARTIES];
            on = new int[MOST_PARTIES];
            weary = new int[MOST_PARTIES];
        }

        void become(Floor other) {
            red = other.red;
            hollow = other.hollow;
            minute = other.minute;
            parties = other.parties;
            rule = other.rule;
            System.arraycopy(other.kind, 0, kind, 0, MOST_PARTIES);
            System.arraycopy(other.number, 0, number, 0, MOST_PARTIES);
            System.arraycopy(other.on, 0, on, 0, MOST_PARTIES);
            System.arraycopy(other.weary, 0, weary, 0, MOST_PARTIES);
        }

        boolean isRed(int tile) {
            return isIn(red, tile);
        }

        boolean isHollow(int tile) {
            return isIn(hollow, tile);
        }

        int whoIsOn(int tile) {
            int bits = 0;
            for (int one = 0; one < parties; one++) {
                bits |= on[one] == tile ? 1 << one : 0;
            }
            return bits;
        }

        long stoodOn() {
            long tiles = 0;
            for (int one = 0; one < parties; one++) {
                tiles |= 1L << on[one];
            }
            return tiles;
        }

        int isFoundBy(int tile) {
            if (isRed(tile)) {
                return RED_FOUND;
            }
            return (tile % 8 + tile / 8) % 2 == 1 ? BLACK_FOUND : WHITE_FOUND;
        }

        int foundOf(int one) {
            int plain = isFoundBy(on[one]);
            switch (kind[one]) {
                case ADVOCATE:
                case ROBED:
                    return weary[one] < 5 && plain != RED_FOUND ? BLACK_FOUND : plain;
                case OLD:
                    return plain == RED_FOUND ? RED_FOUND : WHITE_FOUND;
                case WASHER:
                    return weary[one] >= 50 ? RED_FOUND : plain;
                default:
                    return plain;
            }
        }

        int howManyFound(int f) {
            int many = 0;
            for (int one = 0; one < parties; one++) {
                many += foundOf(one) == f ? 1 : 0;
            }
            return many;
        }

        // Where one would come from a tile by a way (0 to 7), or NONE.
        int landing(int one, int tile, int way) {
            if (!leapsBy(one, way)) {
                return NONE;
            }
            int columns = PARTY_COLUMNS[way];
            int rows = PARTY_ROWS[way];
            if (kind[one] == ADVOCATE || kind[one] == ROBED) {
                columns = ADVOCATE_COLUMNS[way];
                rows = ADVOCATE_ROWS[way];
            } else if (kind[one] == CLERK || kind[one] == OLD) {
                columns = CLERK_COLUMNS[way];
                rows = CLERK_ROWS[way];
            }
            int column = tile % 8 + columns;
            int row = tile / 8 + rows;
            if (!isWithin(column, 7) || !isWithin(row, 7) || isHollow(8 * row + column)) {
                return NONE;
            }
            return 8 * row + column;
        }

        private boolean leapsBy(int one, int way) {
            switch (kind[one]) {
                case CLERK:
                    return way % 2 == 0;
                case ROBED:
                    return way != number[one];
                case OLD:
                    return way % 2 == 0 && minute % 2 == 0;
                case WASHER:
                    return weary[one] < 50;
                default:
                    return true;
            }
        }

        long aLeapFurther(int one, long tiles) {
            long further = tiles;
            for (int tile = 0; tile < TILES; tile++) {
                for (int way = 0; way < WAYS && isIn(tiles, tile); way++) {
                    int next = landing(one, tile, way);
                    further |= next == NONE ? 0 : 1L << next;
                }
            }
            return further;
        }

        int whereDrawn(int seed, int one, int n) {
            int z = seed;
            int tile = on[one];
            for (int k = 0; k < n; k++) {
                z = z * 1103515245 + 12345;
                int next = landing(one, tile, (z >>> 9) % WAYS);
                tile = next == NONE ? tile : next;
            }
            return tile;
        }

        int tires(int one, int v) {
            switch (kind[one]) {
                case ADVOCATE:
                    return v / 2;
                case CLERK:
                    return v + 1;
                case ROBED:
                    return v / 2 + number[one];
                case OLD:
                    return 2 * (v + 1);
                case WASHER:
                    return v + 10;
                default:
                    return v;
            }
        }

        int rests(int one, int v) {
            switch (kind[one]) {
                case CLERK:
                    return 0;
                case ROBED:
                    return v / 2;
                case OLD:
                    return number[one];
                case WASHER:
                    return 2 * v;
                default:
                    return v;
            }
        }

        int named(int name, int one) {
            switch (name) {
                case WEARY:
                    return weary[one];
                case COLUMN:
                    return on[one] % 8;
                case ROW:
                    return on[one] / 8;
                case NUMBER:
                    return number[one];
                case MINUTE:
                    return minute;
                default:
                    return Long.bitCount(hollow);
            }
        }
    }

    /** A text's code: that of turns, then that of tires, then that of rests. */
    private static final class Text {
        final int[] code;
        final int turnsEnd, tiresEnd;

        Text(int[] code, int turnsEnd, int tiresEnd) {
            this.code = code;
            this.turnsEnd = turnsEnd;
            this.tiresEnd = tiresEnd;
        }

        int start(int part) {
            return part == TURNS ? 0 : part == TIRES ? turnsEnd : tiresEnd;
        }

        int end(int part) {
            return part == TURNS ? turnsEnd : part == TIRES ? tiresEnd : code.length;
        }
    }

    /** The texts, and how minutes pass by the one that is a floor's rule. */
    private static final class Law {
        final Text[] texts;
        final int[] stack;
        int size;

        Law() {
            texts = new Text[MOST_TEXTS];
            stack = new int[STACK];
        }

        int add(Text text) {
            if (size >= MOST_TEXTS) {
                return FULL;
            }
            texts[size] = text;
            size++;
            return size - 1;
        }

        // Who leapt in any of them, as bits; the one that is still (or NONE) rests whatever its way is.
        int passMinutes(Floor floor, int n, int still) {
            int leapt = 0;
            for (int k = 0; k < n; k++) {
                for (int one = 0; one < floor.parties; one++) {
                    leapt |= passOne(floor, one, one == still) ? 1 << one : 0;
                }
                floor.minute++;
            }
            return leapt;
        }

        boolean passOne(Floor floor, int one, boolean still) {
            int tile = still ? NONE : floor.landing(one, floor.on[one], wayOf(floor, one));
            if (tile == NONE) {
                floor.weary[one] = Math.max(0, floor.weary[one] - restsOf(floor, one));
                return false;
            }
            // How weary it gets is told as it still stands where it was.
            floor.weary[one] = Math.min(MOST_WEARY, floor.weary[one] + tiresOf(floor, one));
            floor.on[one] = tile;
            return true;
        }

        int wayOf(Floor floor, int one) {
            return Math.floorMod(bounded(value(floor, one, TURNS), -99, 99), WAYS);
        }

        int tiresOf(Floor floor, int one) {
            return bounded(floor.tires(one, bounded(value(floor, one, TIRES), 0, 99)), 0, 99);
        }

        int restsOf(Floor floor, int one) {
            return bounded(floor.rests(one, bounded(value(floor, one, RESTS), 0, 99)), 0, 99);
        }

        private int value(Floor floor, int one, int part) {
            Text text = isWithin(floor.rule, size - 1) ? texts[floor.rule] : null;
            if (text == null) {
                return 0;
            }
            int end = text.end(part);
            int top = 0;
            for (int k = text.start(part); k < end; k++) {
                int does = text.code[k];
                if (does >= WORN) {
                    if (top < STACK) {
                        stack[top] = does >= 0 ? does : floor.named(does, one);
                        top++;
                    }
                } else if (does >= NEGATED) {
                    if (top >= 1) {
                        stack[top - 1] = does == NEGATED ? -stack[top - 1] : stack[top - 1] == 0 ? 1 : 0;
                    }
                } else if (top >= 2) {
                    top--;
                    stack[top - 1] = joined(does, stack[top - 1], stack[top]);
                }
            }
            return stack[0];
        }

        private static int joined(int does, int a, int b) {
            switch (does) {
                case OR:
                    return a != 0 || b != 0 ? 1 : 0;
                case AND:
                    return a != 0 && b != 0 ? 1 : 0;
                case BELOW:
                    return a < b ? 1 : 0;
                case LIKE:
                    return a == b ? 1 : 0;
                case PLUS:
                    return a + b;
                case MINUS:
                    return a - b;
                default:
                    return a * b;
            }
        }
    }

    /** The tape, and the reading of a text from it. */
    private static final class Reader {
        final int[] tape, code;
        int size, fault;
        private int token, tokenAt, next, number, written;

        Reader() {
            tape = new int[MOST_TAPE];
            code = new int[MOST_TAPE];
        }

        boolean takeIn(int letter) {
            if (size >= MOST_TAPE) {
                return false;
            }
            tape[size] = letter;
            size++;
            return true;
        }

        void clear() {
            size = 0;
        }

        // Null, with the fault's place told, if the tape holds none.
        Text readText() {
            fault = NONE;
            next = 0;
            written = 0;
            advance();
            int turnsEnd = readPart(KEY_TURNS);
            int tiresEnd = readPart(KEY_TIRES);
            readPart(KEY_RESTS);
            need(END);
            return fault == NONE ? new Text(Arrays.copyOf(code, written), turnsEnd, tiresEnd) : null;
        }

        // Where the part's code ends.
        private int readPart(int key) {
            need(key);
            readE(0);
            need(';');
            return written;
        }

        // Open tells how many of ( and not and - ahead of a ONE are open: one more than MOST_OPEN can stand nowhere.
        private void readE(int open) {
            readAnd(open);
            for (int k = 0; k < MOST_TAPE && token == KEY_OR; k++) {
                advance();
                readAnd(open);
                write(OR);
            }
        }

        private void readAnd(int open) {
            readNot(open);
            for (int k = 0; k < MOST_TAPE && token == KEY_AND; k++) {
                advance();
                readNot(open);
                write(AND);
            }
        }

        private void readNot(int open) {
            if (token == KEY_NOT && open < MOST_OPEN) {
                advance();
                readNot(open + 1);
                write(NOT);
                return;
            }
            readSum(open);
            if (token == '<' || token == '=') {
                int does = token == '<' ? BELOW : LIKE;
                advance();
                readSum(open);
                write(does);
            }
        }

        private void readSum(int open) {
            readTerm(open);
            for (int k = 0; k < MOST_TAPE && (token == '+' || token == '-'); k++) {
                int does = token == '+' ? PLUS : MINUS;
                advance();
                readTerm(open);
                write(does);
            }
        }

        private void readTerm(int open) {
            readOne(open);
            for (int k = 0; k < MOST_TAPE && token == '*'; k++) {
                advance();
                readOne(open);
                write(TIMES);
            }
        }

        private void readOne(int open) {
            if (token == DIGITS) {
                write(number);
                advance();
            } else if (token < 0) {
                write(token);
                advance();
            } else if (token == '-' && open < MOST_OPEN) {
                advance();
                readOne(open + 1);
                write(NEGATED);
            } else if (token == '(' && open < MOST_OPEN) {
                advance();
                readE(open + 1);
                if (token == ')') {
                    advance();
                } else {
                    refuse();
                }
            } else {
                refuse();
            }
        }

        private void need(int wanted) {
            if (token == wanted) {
                advance();
            } else {
                refuse();
            }
        }

        // From the first fault on, the token is one that can stand nowhere, which ends all reading.
        private void refuse() {
            if (fault == NONE) {
                fault = tokenAt;
            }
            token = FOREIGN;
        }

        private void write(int does) {
            if (written < MOST_TAPE) {
                code[written] = does;
                written++;
            }
        }

        private void advance() {
            while (next < size && (tape[next] == ' ' || tape[next] == '\n')) {
                next++;
            }
            tokenAt = next;
            if (next >= size) {
                token = END;
            } else if (isLetter(tape[next])) {
                while (next < size && isLetter(tape[next])) {
                    next++;
                }
                token = wordRead();
            } else if (isDigit(tape[next])) {
                readDigits();
            } else {
                token = isSign(tape[next]) ? tape[next] : FOREIGN;
                next++;
            }
        }

        private void readDigits() {
            number = 0;
            while (next < size && isDigit(tape[next])) {
                number = 10 * number + tape[next] - '0';
                next++;
            }
            token = next - tokenAt <= MOST_DIGITS ? DIGITS : FOREIGN;
        }

        private int wordRead() {
            return spells("weary") ? WEARY
                : spells("column") ? COLUMN
                : spells("row") ? ROW
                : spells("number") ? NUMBER
                : spells("minute") ? MINUTE
                : spells("worn") ? WORN
                : spells("turns") ? KEY_TURNS
                : spells("tires") ? KEY_TIRES
                : spells("rests") ? KEY_RESTS
                : spells("or") ? KEY_OR
                : spells("and") ? KEY_AND
                : spells("not") ? KEY_NOT : FOREIGN;
        }

        private boolean spells(String word) {
            if (next - tokenAt != word.length()) {
                return false;
            }
            for (int k = 0; k < word.length(); k++) {
                if (tape[tokenAt + k] != word.charAt(k)) {
                    return false;
                }
            }
            return true;
        }

        private static boolean isLetter(int letter) {
            return letter >= 'a' && letter <= 'z';
        }

        private static boolean isDigit(int letter) {
            return letter >= '0' && letter <= '9';
        }

        private static boolean isSign(int letter) {
            return letter == '(' || letter == ')' || letter == ';' || letter == '+' || letter == '-'
                || letter == '*' || letter == '<' || letter == '=';
        }
    }

    /** A row of numbers of a sort, or missing. */
    private static final class Sheet {
        final int[] items;
        int sort, size;

        Sheet() {
            items = new int[MOST_CELLS];
            sort = MISSING;
        }

        void become(int newSort, int n) {
            sort = newSort;
            size = n;
            Arrays.fill(items, 0);
        }

        boolean has(int from, int n) {
            return from >= 0 && n >= 0 && n <= size - from;
        }

        boolean put(int i, int v) {
            if (!has(i, 1)) {
                return false;
            }
            items[i] = sort == BYTES ? (byte) v : sort == SHORTS ? (short) v : v;
            return true;
        }
    }
}
