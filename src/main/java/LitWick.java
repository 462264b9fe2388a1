import java.util.Arrays;

/** Law by candle: what binds in a house of rooms, doors, candles, acts and wind, by the minute. */
public final class LitWick {
    public static final int BAD = -1, STATE = -2, FULL = -3, NONE = -9;
    public static final int NO = -1000000;

    private static final int MOST_BYTES = 200;
    private static final int MOST_ROOMS = 5;
    private static final int MOST_DOORS = 5;
    private static final int MOST_CANDLES = 6;
    private static final int MOST_ACTS = 6;
    private static final int MOST_BITS = 8;
    private static final int MOST_WANTED = 6;
    private static final int MOST_LENGTH = 60;
    private static final int MOST_UNDONE = 10;
    private static final int IMAGES = 2;
    private static final int LAST_MINUTE = 999;
    private static final int FORESEEN = 60;
    private static final int RESTS_ON_NONE = 9;

    private static final int NOT_BEGUN = 0, BEGUN = 1, WHOLE = 2, VOID = 3;

    private static final int CANDLE = 0, TALLOW = 1, BEESWAX = 2, STUB = 3, CHURCH = 4, LAMP = 5;

    private final byte[] text = new byte[MOST_BYTES];
    private int bytes;
    private long traced;
    private final House told = new House();
    private final Reader reader = new Reader(text);
    private final Night night = new Night(told);
    private final Past past = new Past();
    private final Image[] images = new Image[IMAGES];
    private final Foresight foresight = new Foresight(told);
    private final Bench bench = new Bench();

    public LitWick() {
        for (int i = 0; i < IMAGES; i++) {
            images[i] = new Image();
        }
    }

    // ---- the house

    public int type(int c) {
        if (!within(c, 0, 255)) {
            return BAD;
        }
        if (bytes >= MOST_BYTES) {
            return FULL;
        }
        text[bytes] = (byte) c;
        bytes++;
        return bytes;
    }

    public int clear() {
        int had = bytes;
        bytes = 0;
        return had;
    }

    public int house() {
        int items = reader.read(bytes);
        if (items < 0) {
            return -10 - reader.place;
        }
        bytes = 0;
        told.copyFrom(reader.draft);
        night.startAnew();
        past.size = 0;
        bench.pieces = 0;
        for (int i = 0; i < IMAGES; i++) {
            images[i].isKept = false;
        }
        return items;
    }

    public int candle(int c, int what) {
        if (!within(c, 0, told.candles - 1)) {
            return BAD;
        }
        switch (what) {
            case 0: return told.length[c];
            case 1: return night.left(c);
            case 2: return night.roomOf(c);
            case 3: return bit(night.row[Night.LIT], c);
            case 4: return bit(night.row[Night.SHIELDED], c);
            default: return BAD;
        }
    }

    public int door(int d, int what) {
        if (!within(d, 0, told.doors - 1)) {
            return BAD;
        }
        switch (what) {
            case 0: return told.oneSide[d];
            case 1: return told.otherSide[d];
            case 2: return bit(night.row[Night.OPEN], d);
            default: return BAD;
        }
    }

    public int act(int a, int what) {
        if (!within(a, 0, told.acts - 1)) {
            return BAD;
        }
        switch (what) {
            case 0: return told.needs[a];
            case 1: return told.worth[a];
            case 2: return told.actRoom[a];
            case 3: return told.restsOn[a];
            case 4: return night.stage(a);
            case 5: return night.row[Night.HAD + a];
            default: return BAD;
        }
    }

    public int room(int r, int what) {
        if (!within(r, 0, told.rooms - 1)) {
            return BAD;
        }
        switch (what) {
            case 0: return night.wax(r);
            case 1: return night.candlesIn(r);
            case 2: return night.candlesIn(r) & night.row[Night.LIT];
            case 3: return bit(night.draughtyRooms(), r);
            default: return BAD;
        }
    }

    // ---- what is done

    public int lights(int c, int is) {
        if (!within(c, 0, told.candles - 1) || !within(is, 0, 1)) {
            return BAD;
        }
        if (bit(night.row[Night.LIT], c) == is || night.left(c) == 0) {
            return STATE;
        }
        return turn(Night.LIT, c);
    }

    public int carries(int c, int r) {
        if (!within(c, 0, told.candles - 1) || !within(r, 0, told.rooms - 1)) {
            return BAD;
        }
        int from = night.roomOf(c);
        if (from == r || !night.openBetween(from, r)) {
            return STATE;
        }
        past.remember(night);
        night.row[Night.WHERE + c] = r;
        return from;
    }

    public int shields(int c, int is) {
        if (!within(c, 0, told.candles - 1) || !within(is, 0, 1)) {
            return BAD;
        }
        if (bit(night.row[Night.SHIELDED], c) == is) {
            return STATE;
        }
        return turn(Night.SHIELDED, c);
    }

    public int opens(int d, int is) {
        if (!within(d, 0, told.doors - 1) || !within(is, 0, 1)) {
            return BAD;
        }
        if (bit(night.row[Night.OPEN], d) == is) {
            return STATE;
        }
        return turn(Night.OPEN, d);
    }

    public int begins(int a) {
        if (!within(a, 0, told.acts - 1)) {
            return BAD;
        }
        if (night.stage(a) != NOT_BEGUN) {
            return STATE;
        }
        past.remember(night);
        night.beginIfNot(a);
        return Integer.bitCount(night.actsThatAre(BEGUN));
    }

    public int minutes(int n) {
        if (!within(n, 1, 60)) {
            return BAD;
        }
        if (night.minute() + n > LAST_MINUTE) {
            return STATE;
        }
        int voids = 0;
        for (int i = 0; i < n; i++) {
            past.remember(night);
            voids += night.pass(night.windBlows());
        }
        return voids;
    }

    public int undo() {
        if (past.size == 0) {
            return STATE;
        }
        past.takeBack(night);
        return past.size;
    }

    public int now(int what) {
        switch (what) {
            case 0: return night.minute();
            case 1: return night.windBlows() ? 1 : 0;
            case 2: return night.row[Night.LIT];
            case 3: return night.row[Night.OPEN];
            case 4: return night.actsThatAre(WHOLE);
            case 5: return night.actsThatAre(VOID);
            case 6: return sumOver(told.worth, night.actsThatAre(WHOLE));
            default: return BAD;
        }
    }

    // ---- what comes

    public int comes(int a, int n) {
        if (!within(a, 0, told.acts - 1) || !within(n, 0, FORESEEN)) {
            return BAD;
        }
        return foresight.stageIn(night, a, n);
    }

    public int first(int what) {
        if (!within(what, 0, 1)) {
            return BAD;
        }
        return foresight.firstVoid(night, what == 0);
    }

    public int bestActs(int t, int what) {
        if (!within(t, 0, 99) || !within(what, 0, 1)) {
            return BAD;
        }
        int best = 0;
        int bestWorth = 0;
        int bestNeeds = 0;
        for (int set = 1; set < 1 << told.acts; set++) {
            int needs = sumOver(told.needs, set);
            if (needs > t || !canBeDone(set)) {
                continue;
            }
            int worth = sumOver(told.worth, set);
            if (worth > bestWorth || worth == bestWorth && needs < bestNeeds) {
                best = set;
                bestWorth = worth;
                bestNeeds = needs;
            }
        }
        return what == 0 ? best : bestWorth;
    }

    public int plot(int a) {
        if (!within(a, 0, told.acts - 1)) {
            return BAD;
        }
        return night.isEnded(a) ? STATE : foresight.fewestTurned(night, a, ~night.row[Night.OPEN], false);
    }

    public int guard(int a) {
        if (!within(a, 0, told.acts - 1)) {
            return BAD;
        }
        return night.isEnded(a) ? STATE : foresight.fewestTurned(night, a, night.row[Night.OPEN], true);
    }

    public int falls(int a) {
        if (!within(a, 0, told.acts - 1)) {
            return BAD;
        }
        int fallen = 1 << a;
        // An act rests only on one told ahead of it, so that one pass upwards finds all.
        for (int b = a + 1; b < told.acts; b++) {
            if (told.restsOn[b] != RESTS_ON_NONE && bit(fallen, told.restsOn[b]) == 1) {
                fallen |= 1 << b;
            }
        }
        return fallen;
    }

    // ---- the chandler, wax

    public int wants(int length) {
        if (!within(length, 1, MOST_LENGTH)) {
            return BAD;
        }
        if (bench.pieces >= MOST_WANTED) {
            return FULL;
        }
        bench.wanted[bench.pieces] = length;
        bench.pieces++;
        return bench.pieces;
    }

    public int forget() {
        int had = bench.pieces;
        bench.pieces = 0;
        return had;
    }

    public int cut(int i) {
        if (!within(i, -2, bench.pieces - 1)) {
            return BAD;
        }
        if (!bench.findWay(night)) {
            return NONE;
        }
        if (i == -1) {
            return bench.bestCandles;
        }
        return i == -2 ? bench.over() : bench.bestWay[i];
    }

    public int shown(int r, int what) {
        if (!within(r, 0, told.rooms - 1) || !within(what, 0, 1)) {
            return BAD;
        }
        int sets = 0;
        int least = NONE;
        for (int set = 0; set < 1 << told.candles; set++) {
            if (night.burnedBy(set) == night.wax(r)) {
                least = sets == 0 ? set : least;
                sets++;
            }
        }
        return what == 0 ? sets : least;
    }

    public int odds(int a, int x, int n, int what) {
        if (!within(a, 0, told.acts - 1) || !within(x, 0, 10) || !within(n, 0, 6) || !within(what, 0, 1)) {
            return BAD;
        }
        if (night.isEnded(a)) {
            return STATE;
        }
        int upper = foresight.waysWhole(night, a, x, n);
        int lower = power(10, n);
        int common = greatestDivisor(upper, lower);
        if (common < 1) {
            return BAD;
        }
        return what == 0 ? upper / common : lower / common;
    }

    // ---- kinds, images

    public int mark(int kind, int c) {
        if (!within(c, 0, told.candles - 1)) {
            return NO;
        }
        switch (kind) {
            case CANDLE: return candleMark(c);
            case TALLOW: return tallowMark(c);
            case BEESWAX: return beeswaxMark(c);
            case STUB: return stubMark(c);
            case CHURCH: return churchMark(c);
            case LAMP: return lampMark(c);
            default: return NO;
        }
    }

    public int keep(int image) {
        if (!within(image, 0, IMAGES - 1)) {
            return BAD;
        }
        images[image].take(night, past);
        return night.minute();
    }

    public int back(int image) {
        if (!within(image, 0, IMAGES - 1)) {
            return BAD;
        }
        if (!images[image].isKept) {
            return STATE;
        }
        images[image].giveTo(night, past);
        return night.minute();
    }

    public int count(int what) {
        switch (what) {
            case 0: return told.rooms;
            case 1: return told.doors;
            case 2: return told.candles;
            case 3: return told.acts;
            case 4: return told.windBits;
            case 5: return bench.pieces;
            case 6: return past.size;
            case 7: return bytes;
            default: return BAD;
        }
    }

    public long trace() {
        return traced;
    }

    private int turn(int flags, int i) {
        past.remember(night);
        night.row[flags] ^= 1 << i;
        return Integer.bitCount(night.row[flags]);
    }

    private boolean canBeDone(int set) {
        int whole = night.actsThatAre(WHOLE);
        if ((set & (whole | night.actsThatAre(VOID))) != 0) {
            return false;
        }
        for (int a = 0; a < told.acts; a++) {
            int ground = told.restsOn[a];
            if (bit(set, a) == 1 && ground != RESTS_ON_NONE && bit(set | whole, ground) == 0) {
                return false;
            }
        }
        return true;
    }

    private int candleMark(int c) {
        traced += 1;
        return night.left(c);
    }

    private int tallowMark(int c) {
        traced += 10;
        return candleMark(c) + told.length[c];
    }

    private int beeswaxMark(int c) {
        traced += 100;
        return candleMark(c) - night.roomOf(c);
    }

    private int stubMark(int c) {
        traced += 1000;
        return tallowMark(c) * 2;
    }

    private int churchMark(int c) {
        traced += 10000;
        return beeswaxMark(c) + Integer.bitCount(night.row[Night.LIT]);
    }

    private int lampMark(int c) {
        traced += 100000;
        return candleMark(c) + night.minute();
    }

    private static boolean within(int x, int least, int most) {
        return x >= least && x <= most;
    }

    private static int bit(int set, int i) {
        return set >> i & 1;
    }

    private static int sumOver(int[] numbers, int set) {
        int sum = 0;
        for (int i = 0; i < numbers.length; i++) {
            sum += bit(set, i) * numbers[i];
        }
        return sum;
    }

    private static int power(int base, int times) {
        int product = 1;
        for (int i = 0; i < times; i++) {
            product *= base;
        }
        return product;
    }

    private static int greatestDivisor(int a, int b) {
        int greater = a;
        int lesser = b;
        // Euclid's rests halve every second step: an int has no 64 of them.
        for (int i = 0; i < 64 && lesser != 0; i++) {
            int rest = greater % lesser;
            greater = lesser;
            lesser = rest;
        }
        return greater;
    }

    /** What a text tells: it stays until another text is read. */
    private static final class House {
        int rooms, doors, candles, acts, windBits;
        final int[] oneSide = new int[MOST_DOORS];
        final int[] otherSide = new int[MOST_DOORS];
        final int[] length = new int[MOST_CANDLES];
        final int[] candleRoom = new int[MOST_CANDLES];
        final int[] needs = new int[MOST_ACTS];
        final int[] worth = new int[MOST_ACTS];
        final int[] actRoom = new int[MOST_ACTS];
        final int[] restsOn = new int[MOST_ACTS];
        final int[] wind = new int[MOST_BITS];

        void empty() {
            rooms = 0;
            doors = 0;
            candles = 0;
            acts = 0;
            windBits = 0;
        }

        void copyFrom(House other) {
            rooms = other.rooms;
            doors = other.doors;
            candles = other.candles;
            acts = other.acts;
            windBits = other.windBits;
            System.arraycopy(other.oneSide, 0, oneSide, 0, MOST_DOORS);
            System.arraycopy(other.otherSide, 0, otherSide, 0, MOST_DOORS);
            System.arraycopy(other.length, 0, length, 0, MOST_CANDLES);
            System.arraycopy(other.candleRoom, 0, candleRoom, 0, MOST_CANDLES);
            System.arraycopy(other.needs, 0, needs, 0, MOST_ACTS);
            System.arraycopy(other.worth, 0, worth, 0, MOST_ACTS);
            System.arraycopy(other.actRoom, 0, actRoom, 0, MOST_ACTS);
            System.arraycopy(other.restsOn, 0, restsOn, 0, MOST_ACTS);
            System.arraycopy(other.wind, 0, wind, 0, MOST_BITS);
        }
    }

    /** Reads a text into a draft of a house, so that a fault leaves the house itself as it is. */
    private static final class Reader {
        private static final int END = 0, WORD = 1, NUMBER = 2, SEMICOLON = 3, WRONG = 4;

        final House draft = new House();
        /** The place of the token read last: the fault's, when a read has failed. */
        int place;
        private final byte[] text;
        private int size;
        private int at;
        private int kind;
        /** A number's value; a word's letter, or 0 for a word of several. */
        private int value;

        Reader(byte[] text) {
            this.text = text;
        }

        /** How many items, or -1: the fault is at the place. */
        int read(int bytes) {
            size = Math.min(bytes, text.length);
            at = 0;
            draft.empty();
            int items = 0;
            for (int i = 0; i <= size; i++) {
                step();
                if (kind == END) {
                    break;
                }
                if (!readsItem()) {
                    return -1;
                }
                items++;
            }
            return items;
        }

        private boolean readsItem() {
            if (kind != WORD) {
                return false;
            }
            switch (value) {
                case 'r': return readsRoom();
                case 'd': return readsDoor();
                case 'c': return readsCandle();
                case 'a': return readsAct();
                case 'w': return readsWind();
                default: return false;
            }
        }

        private boolean readsRoom() {
            if (draft.rooms >= MOST_ROOMS) {
                return false;
            }
            draft.rooms++;
            return readsEnd();
        }

        private boolean readsDoor() {
            int d = draft.doors;
            if (d >= MOST_DOORS || !readsNumber(0, draft.rooms - 1)) {
                return false;
            }
            draft.oneSide[d] = value;
            if (!readsNumber(0, draft.rooms - 1)) {
                return false;
            }
            draft.otherSide[d] = value;
            draft.doors++;
            return readsEnd();
        }

        private boolean readsCandle() {
            int c = draft.candles;
            if (c >= MOST_CANDLES || !readsNumber(1, MOST_LENGTH)) {
                return false;
            }
            draft.length[c] = value;
            if (!readsNumber(0, draft.rooms - 1)) {
                return false;
            }
            draft.candleRoom[c] = value;
            draft.candles++;
            return readsEnd();
        }

        private boolean readsAct() {
            int a = draft.acts;
            if (a >= MOST_ACTS || !readsNumber(1, 20)) {
                return false;
            }
            draft.needs[a] = value;
            if (!readsNumber(0, 9)) {
                return false;
            }
            draft.worth[a] = value;
            if (!readsNumber(0, draft.rooms - 1)) {
                return false;
            }
            draft.actRoom[a] = value;
            step();
            if (kind != NUMBER || value >= a && value != RESTS_ON_NONE) {
                return false;
            }
            draft.restsOn[a] = value;
            draft.acts++;
            return readsEnd();
        }

        private boolean readsWind() {
            if (draft.windBits > 0 || !readsNumber(0, 1)) {
                return false;
            }
            draft.wind[0] = value;
            draft.windBits = 1;
            for (int i = 1; i < MOST_BITS; i++) {
                step();
                if (kind == SEMICOLON) {
                    return true;
                }
                if (kind != NUMBER || value > 1) {
                    return false;
                }
                draft.wind[i] = value;
                draft.windBits++;
            }
            return readsEnd();
        }

        private boolean readsNumber(int least, int most) {
            step();
            return kind == NUMBER && within(value, least, most);
        }

        private boolean readsEnd() {
            step();
            return kind == SEMICOLON;
        }

        private void step() {
            skipRun(' ', ' ');
            place = at;
            value = 0;
            if (at >= size) {
                kind = END;
                return;
            }
            int sign = text[at];
            at++;
            if (sign >= 'a' && sign <= 'z') {
                skipRun('a', 'z');
                kind = WORD;
                value = at == place + 1 ? sign : 0;
            } else if (sign >= '0' && sign <= '9') {
                skipRun('0', '9');
                takeNumber(sign - '0', at - place);
            } else {
                kind = sign == ';' ? SEMICOLON : WRONG;
            }
        }

        private void skipRun(int least, int most) {
            while (at < size && text[at] >= least && text[at] <= most) {
                at++;
            }
        }

        /** No number has more than two digits, nor two with a 0 ahead. */
        private void takeNumber(int firstDigit, int digits) {
            kind = digits == 1 || digits == 2 && firstDigit > 0 ? NUMBER : WRONG;
            value = digits == 1 ? firstDigit : firstDigit * 10 + text[place + 1] - '0';
        }
    }

    /** How the house stands in a minute; all of it in one row, so that to keep it is one copy. */
    private static final class Night {
        static final int MINUTE = 0, LIT = 1, SHIELDED = 2, OPEN = 3;
        static final int LEFT = 4;
        static final int WHERE = LEFT + MOST_CANDLES;
        static final int STAGE = WHERE + MOST_CANDLES;
        static final int HAD = STAGE + MOST_ACTS;
        static final int WAX = HAD + MOST_ACTS;
        static final int SIZE = WAX + MOST_ROOMS;

        final int[] row = new int[SIZE];
        private final House told;

        Night(House told) {
            this.told = told;
        }

        void startAnew() {
            Arrays.fill(row, 0);
            for (int c = 0; c < told.candles; c++) {
                row[LEFT + c] = told.length[c];
                row[WHERE + c] = told.candleRoom[c];
            }
        }

        void copyFrom(Night other) {
            System.arraycopy(other.row, 0, row, 0, SIZE);
        }

        int minute() {
            return row[MINUTE];
        }

        int left(int c) {
            return row[LEFT + c];
        }

        int roomOf(int c) {
            return row[WHERE + c];
        }

        int stage(int a) {
            return row[STAGE + a];
        }

        int wax(int r) {
            return row[WAX + r];
        }

        boolean isEnded(int a) {
            return stage(a) == WHOLE || stage(a) == VOID;
        }

        void beginIfNot(int a) {
            if (stage(a) == NOT_BEGUN) {
                row[STAGE + a] = BEGUN;
            }
        }

        boolean windBlows() {
            return told.windBits > 0 && told.wind[minute() % told.windBits] == 1;
        }

        int candlesIn(int r) {
            int set = 0;
            for (int c = 0; c < told.candles; c++) {
                set |= roomOf(c) == r ? 1 << c : 0;
            }
            return set;
        }

        int actsThatAre(int stage) {
            int set = 0;
            for (int a = 0; a < told.acts; a++) {
                set |= stage(a) == stage ? 1 << a : 0;
            }
            return set;
        }

        int burnedBy(int set) {
            int burned = 0;
            for (int c = 0; c < told.candles; c++) {
                burned += bit(set, c) * (told.length[c] - left(c));
            }
            return burned;
        }

        int draughtyRooms() {
            int rooms = 0;
            for (int d = 0; d < told.doors; d++) {
                if (bit(row[OPEN], d) == 1) {
                    rooms |= 1 << told.oneSide[d] | 1 << told.otherSide[d];
                }
            }
            return rooms;
        }

        boolean openBetween(int r, int s) {
            for (int d = 0; d < told.doors; d++) {
                boolean joins = told.oneSide[d] == r && told.otherSide[d] == s
                        || told.oneSide[d] == s && told.otherSide[d] == r;
                if (joins && bit(row[OPEN], d) == 1) {
                    return true;
                }
            }
            return false;
        }

        /** A minute; how many acts became void in it. */
        int pass(boolean blows) {
            if (blows) {
                blowOut();
            }
            int voids = judgeActs();
            burn();
            row[MINUTE]++;
            return voids;
        }

        private void blowOut() {
            int rooms = draughtyRooms();
            for (int c = 0; c < told.candles; c++) {
                if (bit(rooms, roomOf(c)) == 1 && bit(row[SHIELDED], c) == 0) {
                    row[LIT] &= ~(1 << c);
                }
            }
        }

        private int judgeActs() {
            int bright = brightRooms();
            int voids = 0;
            for (int a = 0; a < told.acts; a++) {
                if (stage(a) == BEGUN) {
                    judge(a, bit(bright, told.actRoom[a]) == 1);
                    voids += stage(a) == VOID ? 1 : 0;
                }
            }
            return voids;
        }

        private int brightRooms() {
            int rooms = 0;
            for (int c = 0; c < told.candles; c++) {
                rooms |= bit(row[LIT], c) << roomOf(c);
            }
            return rooms;
        }

        private void judge(int a, boolean bright) {
            if (!bright) {
                row[STAGE + a] = VOID;
                return;
            }
            row[HAD + a]++;
            if (row[HAD + a] >= told.needs[a]) {
                int ground = told.restsOn[a];
                boolean holds = ground == RESTS_ON_NONE || stage(ground) == WHOLE;
                row[STAGE + a] = holds ? WHOLE : VOID;
            }
        }

        private void burn() {
            for (int c = 0; c < told.candles; c++) {
                if (bit(row[LIT], c) == 1) {
                    row[LEFT + c]--;
                    row[WAX + roomOf(c)]++;
                    if (left(c) == 0) {
                        row[LIT] &= ~(1 << c);
                    }
                }
            }
        }
    }

    /** What may be undone: the rows of the latest nights, in a ring. */
    private static final class Past {
        int size;
        private int next;
        private final int[][] rows = new int[MOST_UNDONE][Night.SIZE];

        void remember(Night night) {
            System.arraycopy(night.row, 0, rows[next], 0, Night.SIZE);
            next = (next + 1) % MOST_UNDONE;
            size = Math.min(size + 1, MOST_UNDONE);
        }

        void takeBack(Night night) {
            next = (next + MOST_UNDONE - 1) % MOST_UNDONE;
            size--;
            System.arraycopy(rows[next], 0, night.row, 0, Night.SIZE);
        }

        void copyFrom(Past other) {
            size = other.size;
            next = other.next;
            for (int i = 0; i < MOST_UNDONE; i++) {
                System.arraycopy(other.rows[i], 0, rows[i], 0, Night.SIZE);
            }
        }
    }

    private static final class Image {
        boolean isKept;
        private final int[] row = new int[Night.SIZE];
        private final Past past = new Past();

        void take(Night from, Past fromPast) {
            isKept = true;
            System.arraycopy(from.row, 0, row, 0, Night.SIZE);
            past.copyFrom(fromPast);
        }

        void giveTo(Night to, Past toPast) {
            System.arraycopy(row, 0, to.row, 0, Night.SIZE);
            toPast.copyFrom(past);
        }
    }

    /** What comes of a night, tried on a copy of it. */
    private static final class Foresight {
        private final House told;
        private final Night trial;

        Foresight(House told) {
            this.told = told;
            trial = new Night(told);
        }

        int stageIn(Night night, int a, int n) {
            trial.copyFrom(night);
            // An act that is not begun, or has ended, stays so whatever comes.
            for (int i = 0; i < n && trial.stage(a) == BEGUN; i++) {
                trial.pass(trial.windBlows());
            }
            return trial.stage(a);
        }

        /** The first act that becomes void, or behind how many minutes. */
        int firstVoid(Night night, boolean asksAct) {
            trial.copyFrom(night);
            int voidBefore = trial.actsThatAre(VOID);
            for (int i = 1; i <= FORESEEN && trial.actsThatAre(BEGUN) != 0; i++) {
                if (trial.pass(trial.windBlows()) > 0) {
                    int fresh = trial.actsThatAre(VOID) & ~voidBefore;
                    return asksAct ? Integer.numberOfTrailingZeros(fresh) : i;
                }
            }
            return NONE;
        }

        /** The fewest doors of some, turned (opened or shut) from now on, by which an act is whole in the end, or not. */
        int fewestTurned(Night night, int a, int some, boolean whole) {
            for (int size = 0; size <= told.doors; size++) {
                for (int set = 0; set < 1 << told.doors; set++) {
                    if (Integer.bitCount(set) == size && (set & ~some) == 0) {
                        trial.copyFrom(night);
                        trial.row[Night.OPEN] ^= set;
                        if (endsWhole(a, 0, 0) == whole) {
                            return set;
                        }
                    }
                }
            }
            return NONE;
        }

        /** In how many of 10 to the n ways of the wind the act is whole in the end. */
        int waysWhole(Night night, int a, int x, int n) {
            int ways = 0;
            for (int gusts = 0; gusts < 1 << n; gusts++) {
                int blowing = Integer.bitCount(gusts);
                int weight = power(x, blowing) * power(10 - x, n - blowing);
                if (weight > 0) {
                    trial.copyFrom(night);
                    ways += endsWhole(a, gusts, n) ? weight : 0;
                }
            }
            return ways;
        }

        /** Whether the act ends whole on the trial, the first minutes' wind being told by gusts. */
        private boolean endsWhole(int a, int gusts, int gustMinutes) {
            trial.beginIfNot(a);
            for (int i = 0; i < FORESEEN && !trial.isEnded(a); i++) {
                trial.pass(i < gustMinutes ? bit(gusts, i) == 1 : trial.windBlows());
            }
            return trial.stage(a) == WHOLE;
        }
    }

    /** The lengths wanted, and the best way to cut them from the candles that are not lit. */
    private static final class Bench {
        final int[] wanted = new int[MOST_WANTED];
        int pieces;
        int bestCandles;
        final int[] bestWay = new int[MOST_WANTED];
        private int bestStock;
        private final int[] stock = new int[MOST_CANDLES];
        private final int[] remains = new int[MOST_CANDLES];
        private final int[] way = new int[MOST_WANTED];

        boolean findWay(Night night) {
            int whole = 0;
            for (int c = 0; c < MOST_CANDLES; c++) {
                stock[c] = bit(night.row[Night.LIT], c) == 1 ? 0 : night.left(c);
                remains[c] = stock[c];
                whole += stock[c];
            }
            bestCandles = MOST_CANDLES + 1;
            bestStock = 0;
            if (whole >= length()) {
                place(this, 0, 0, 0);
            }
            return bestCandles <= MOST_CANDLES;
        }

        int over() {
            return bestStock - length();
        }

        private int length() {
            int sum = 0;
            for (int i = 0; i < pieces; i++) {
                sum += wanted[i];
            }
            return sum;
        }

        /** Tries every candle for a piece and those behind it, lesser candles first. */
        private static void place(Bench b, int piece, int cutFrom, int cutStock) {
            // More pieces cut from no fewer candles, so what is no better by now never will be.
            if (!b.isBetter(Integer.bitCount(cutFrom), cutStock)) {
                return;
            }
            if (piece >= b.pieces || piece >= MOST_WANTED) {
                b.bestCandles = Integer.bitCount(cutFrom);
                b.bestStock = cutStock;
                System.arraycopy(b.way, 0, b.bestWay, 0, MOST_WANTED);
                return;
            }
            int length = b.wanted[piece];
            for (int c = 0; c < MOST_CANDLES; c++) {
                if (b.remains[c] >= length) {
                    int more = bit(cutFrom, c) == 1 ? 0 : b.stock[c];
                    b.remains[c] -= length;
                    b.way[piece] = c;
                    place(b, piece + 1, cutFrom | 1 << c, cutStock + more);
                    b.remains[c] += length;
                }
            }
        }

        private boolean isBetter(int candles, int cutStock) {
            return candles < bestCandles || candles == bestCandles && cutStock < bestStock;
        }
    }
}
