/** Post between islands by people with feathered arms: skies, beats, ways, gusts, boats, feathers, lots. */
public final class WaxWings {
    public static final int BAD = -1, FULL = -2, FINDING = -3, STATE = -4, SPENT = -6, NONE = -9;

    private static final int NOTHING = 1, BEYOND = 2, UNLIKE = 3, NOUGHT = 4, SIZE = 5;
    private static final int ROWS = 6, ROW_SIZE = 40, TEXTS = 4, TEXT_SIZE = 80, KEPT = 3;
    private static final int COLUMNS = 7, HEIGHTS = 5, FLYERS = 4, BEATS = 40, LETTERS = 3;
    private static final int DOWN = 0, LEVEL = 1, UP = 2;
    private static final int CLOUD = 1, SPRAY = 2, THERMAL = 3, WIND = 4, ROCK = 5;
    private static final int OLD = 1, FIRST = 2, LADEN = 3, NIGHT = 4, ABREAST = 5, KINDS = 6;
    private static final int BLANK = 32, SLASH = 47, EQUALS = 61, FIGURE = 48;
    /** The signs of the air, each at its own number; the letters of the KINDS likewise. */
    private static final int[] SIGNS = {46, 99, 115, 103, 62, 35};
    private static final int[] KIND_LETTERS = {102, 111, 98, 108, 110, 97};

    /** A BEAT takes one at least a COLUMN on, so no WAY has more of them, and no flyer more WAYS. */
    private static final int WAY_SIZE = 6, WAYS = 729;
    /** Far more than the tries of all BEATS at all places of all WAYS. */
    private static final int TRIES = 100000;
    /** A BEAT that can't be; no cause of a fall is below 0. */
    private static final int CANNOT = -1;
    private static final int MOST_WAX = 9, MOST_SUN = 9, MOST_STRENGTH = 40, MOST_POST = 12;
    private static final int MOST_BOATS = 4, MOST_PLAN = 8, MOST_LOTS = 9;
    /** A certain chance, 12 to the 6th: with at most 5 GUSTS on a way all chances are whole parts of it. */
    private static final int GUST_PARTS = 12, CERTAIN = 2985984;
    private static final long LOT_FACTOR = 48271L, LOT_MODULUS = 2147483647L;

    private final Row[] rows = new Row[ROWS];
    private final Row[] texts = new Row[TEXTS];
    private final Air air = new Air();
    private final Sky now = new Sky();
    private final Sky[] kept = new Sky[KEPT];
    private final Flight flight = new Flight(air);
    private final Walker walker = new Walker(flight);
    private final Gusts gusts = new Gusts(flight);
    private final Reader reader = new Reader();
    private final Spot aside = new Spot();
    private final int[] found = new int[SIZE + 1];
    /** The numbers of LETTERS (bits) that each FLYER can bring over; one row for all calls of post(). */
    private final int[] loads = new int[FLYERS];
    private int latest;
    private int told;
    private long upperTold;
    private long lowerTold = 1;

    public WaxWings() {
        for (int r = 0; r < ROWS; r++) rows[r] = new Row(ROW_SIZE);
        for (int t = 0; t < TEXTS; t++) texts[t] = new Row(TEXT_SIZE);
        for (int k = 0; k < KEPT; k++) kept[k] = new Sky();
    }

    // ---- 1 rows, texts, skies

    public int row(int r, int n) {
        return madeAnew(rowAt(r), n, 0);
    }

    public int lay(int r, int i, int v) {
        Row row = rowAt(r);
        if (row == null) return BAD;
        if (!row.isThere()) return refuse(NOTHING);
        if (!row.has(i)) return refuse(BEYOND);
        told = row.get(i);
        row.set(i, v);
        return 1;
    }

    public int at(int r, int i) {
        Row row = rowAt(r);
        if (row == null) return BAD;
        if (!row.isThere()) return refuse(NOTHING);
        if (!row.has(i)) return refuse(BEYOND);
        told = row.get(i);
        return 1;
    }

    public int tear(int r) {
        Row row = rowAt(r);
        if (row == null) return BAD;
        if (!row.isThere()) return refuse(NOTHING);
        row.drop();
        return 1;
    }

    public int copy(int r, int i, int to, int j, int n) {
        Row from = rowAt(r);
        Row target = rowAt(to);
        if (from == null || target == null) return BAD;
        if (n < 0) return refuse(SIZE);
        if (!from.isThere() || !target.isThere()) return refuse(NOTHING);
        if (!from.hasRun(i, n) || !target.hasRun(j, n)) return refuse(BEYOND);
        target.takeRun(j, from, i, n);
        return 1;
    }

    public int mean(int r) {
        Row row = rowAt(r);
        if (row == null) return BAD;
        if (!row.isThere()) return refuse(NOTHING);
        int size = row.size();
        if (size <= 0) return refuse(NOUGHT);
        long sum = 0;
        for (int i = 0; i < size; i++) sum += row.get(i);
        told = (int) (sum / size);
        return 1;
    }

    public int text(int t, int n) {
        return madeAnew(textAt(t), n, BLANK);
    }

    public int put(int t, int i, int v) {
        Row text = textAt(t);
        if (text == null) return BAD;
        if (!text.isThere()) return refuse(NOTHING);
        if (!text.has(i)) return refuse(BEYOND);
        int was = text.get(i);
        text.set(i, (byte) v);
        return was + 1000;
    }

    public int fault(int t) {
        Row text = textAt(t);
        if (text == null) return BAD;
        if (!text.isThere()) return refuse(NOTHING);
        return reader.read(text) ? NONE : reader.place();
    }

    public int sky(int t) {
        Row text = textAt(t);
        if (text == null) return BAD;
        if (!text.isThere()) return refuse(NOTHING);
        if (!reader.read(text)) return STATE;
        reader.hand(air, now);
        for (int k = 0; k < KEPT; k++) kept[k].drop();
        return now.flyers;
    }

    public int flyer(int i, int what) {
        Bird bird = now.birdAt(i);
        if (bird == null || what < 0 || what > 7) return BAD;
        told = bird.tell(what);
        return 1;
    }

    public int mark(int i, int kind) {
        Bird bird = now.birdAt(i);
        if (bird == null || kind < OLD || kind > ABREAST) return BAD;
        if (!isOfKind(bird.kind, kind)) return refuse(UNLIKE);
        flight.board(bird, now.sun);
        switch (kind) {
            case OLD: return flight.cost(UP);
            case FIRST: return flight.warmth(air.heights - 1);
            case LADEN: return flight.cost(LEVEL);
            case NIGHT: return air.columns - 1 - bird.spot.column;
            default: return now.othersIn(i, bird.spot.column);
        }
    }

    public int air(int column, int height) {
        if (column < 0 || column >= air.columns || height < 0 || height >= air.heights) return BAD;
        return air.look(column, height);
    }

    public int sun(int v) {
        if (v < 0 || v > MOST_SUN) return BAD;
        if (air.columns == 0) return STATE;
        int was = now.sun;
        now.sun = v;
        return was;
    }

    public int letters(int i, int v) {
        Bird bird = now.birdAt(i);
        if (bird == null || v < 0 || v > LETTERS) return BAD;
        int had = bird.letters;
        bird.letters = v;
        return had;
    }

    // ---- 2 beats

    public int beat(int i, int b) {
        Bird bird = now.birdAt(i);
        if (bird == null || !isBeat(b)) return BAD;
        flight.board(bird, now.sun);
        return perform(i, bird, b);
    }

    public int undo(int n) {
        if (n < 0 || n > now.beats) return BAD;
        return now.goBack(n);
    }

    public int over() {
        int over = 0;
        int fallen = 0;
        for (int i = 0; i < FLYERS; i++) {
            Bird bird = now.birdAt(i);
            if (bird == null) continue;
            if (bird.spot.fell != 0) fallen |= 1 << i;
            else if (flight.isOver(bird.spot)) over |= 1 << i;
        }
        told = fallen;
        return over;
    }

    public int can(int i) {
        Bird bird = now.birdAt(i);
        if (bird == null) return BAD;
        flight.board(bird, now.sun);
        int falling = 0;
        for (int b = DOWN; b <= UP; b++) {
            if (flight.fly(bird.spot, b, aside) > 0) falling |= 1 << b;
        }
        told = falling;
        return openBeats(bird);
    }

    public int keep(int k) {
        if (k < 0 || k >= KEPT) return BAD;
        if (air.columns == 0) return STATE;
        kept[k].take(now);
        return now.beats;
    }

    public int on(int k) {
        if (k < 0 || k >= KEPT) return BAD;
        if (!kept[k].there) return refuse(NOTHING);
        now.take(kept[k]);
        return now.beats;
    }

    // ---- 3 ways

    public int judge(int i, int r) {
        Bird bird = now.birdAt(i);
        Row row = rowAt(r);
        if (bird == null || row == null) return BAD;
        if (bird.spot.fell != 0) return STATE;
        if (!row.isThere()) return refuse(NOTHING);
        if (!holdsBeatsAlone(row)) return refuse(UNLIKE);
        flight.board(bird, now.sun);
        aside.take(bird.spot);
        for (int n = 0; n < row.size(); n++) {
            int fall = flight.fly(aside, row.get(n), aside);
            if (fall == 0) continue;
            told = fall == CANNOT ? 0 : fall;
            return n;
        }
        told = 0;
        return row.size();
    }

    public int soonest(int i, int r) {
        Bird bird = now.birdAt(i);
        Row row = rowAt(r);
        if (bird == null || row == null) return BAD;
        if (bird.spot.fell != 0) return STATE;
        int fewest = NONE;
        setOut(bird);
        for (int n = 0; n < WAYS && walker.findNext(); n++) {
            if (fewest != NONE && walker.size() >= fewest) continue;
            fewest = walker.size();
            walker.write(row);
        }
        return fewest;
    }

    public int lightest(int i, int r) {
        Bird bird = now.birdAt(i);
        Row row = rowAt(r);
        if (bird == null || row == null) return BAD;
        if (bird.spot.fell != 0) return STATE;
        int left = NONE;
        setOut(bird);
        for (int n = 0; n < WAYS && walker.findNext(); n++) {
            if (walker.end().strength <= left) continue;
            left = walker.end().strength;
            walker.write(row);
        }
        return left;
    }

    public int ways(int i) {
        Bird bird = now.birdAt(i);
        if (bird == null) return BAD;
        if (bird.spot.fell != 0) return STATE;
        int n = 0;
        setOut(bird);
        while (n < WAYS && walker.findNext()) n++;
        tell(n, 1);
        return 1;
    }

    public int heights(int i, int column) {
        Bird bird = now.birdAt(i);
        if (bird == null || column < 0 || column >= air.columns) return BAD;
        if (bird.spot.fell != 0) return STATE;
        int some = 0;
        int each = 0;
        setOut(bird);
        for (int n = 0; n < WAYS && walker.findNext(); n++) {
            int bits = walker.heightsIn(column);
            some |= bits;
            each = n == 0 ? bits : each & bits;
        }
        told = each;
        return some;
    }

    public int nth(int i, int n, int r) {
        Bird bird = now.birdAt(i);
        Row row = rowAt(r);
        if (bird == null || row == null || n < 0) return BAD;
        if (bird.spot.fell != 0) return STATE;
        setOut(bird);
        for (int k = 0; k < WAYS && walker.findNext(); k++) {
            if (k != n) continue;
            walker.write(row);
            return walker.size();
        }
        return refuse(NOUGHT);
    }

    // ---- 4 with how much

    public int wax(int i) {
        Bird bird = now.birdAt(i);
        if (bird == null) return BAD;
        if (bird.spot.fell != 0) return STATE;
        flight.board(bird, now.sun);
        for (int w = 0; w <= MOST_WAX; w++) {
            flight.wax = w;
            if (hasWay(bird.spot)) return w;
        }
        return NONE;
    }

    public int strength(int i) {
        Bird bird = now.birdAt(i);
        if (bird == null) return BAD;
        if (bird.spot.fell != 0) return STATE;
        setOut(bird);
        walker.strengthen(MOST_STRENGTH);
        // nothing gives STRENGTH back, so what the lightest WAY takes of much is the least that is wanted
        int left = NONE;
        for (int n = 0; n < WAYS && walker.findNext(); n++) left = Math.max(left, walker.end().strength);
        return left == NONE ? NONE : MOST_STRENGTH - left;
    }

    public int most(int i) {
        Bird bird = now.birdAt(i);
        if (bird == null) return BAD;
        if (bird.spot.fell != 0) return STATE;
        flight.board(bird, now.sun);
        for (int v = LETTERS; v >= 0; v--) {
            flight.letters = v;
            if (hasWay(bird.spot)) return v;
        }
        return NONE;
    }

    public int hottest(int i) {
        Bird bird = now.birdAt(i);
        if (bird == null) return BAD;
        if (bird.spot.fell != 0) return STATE;
        flight.board(bird, now.sun);
        for (int v = MOST_SUN; v >= 0; v--) {
            flight.sun = v;
            if (hasWay(bird.spot)) return v;
        }
        return NONE;
    }

    public int kinds(int i) {
        Bird bird = now.birdAt(i);
        if (bird == null) return BAD;
        if (bird.spot.fell != 0) return STATE;
        flight.board(bird, now.sun);
        int bits = 0;
        for (int kind = 0; kind < KINDS; kind++) {
            flight.kind = kind;
            if (hasWay(bird.spot)) bits |= 1 << kind;
        }
        return bits;
    }

    public int post(int n, int r) {
        Row row = rowAt(r);
        if (row == null || n < 0 || n > MOST_POST) return BAD;
        if (now.flyers == 0) return STATE;
        for (int i = 0; i < FLYERS; i++) loads[i] = loadsOf(now.birdAt(i));
        int fewest = NONE;
        int best = 0;
        // two bits a FLYER, the first one's highest: so rising numbers are the asked order
        for (int shares = 0; shares < 1 << 2 * FLYERS; shares++) {
            int carriers = carriersOf(shares, n);
            if (carriers == NONE || fewest != NONE && carriers >= fewest) continue;
            fewest = carriers;
            best = shares;
        }
        if (fewest != NONE) writeShares(best, row);
        return fewest;
    }

    // ---- 5 gusts

    public int plan(int i, int r, int p) {
        Bird bird = now.birdAt(i);
        Row row = rowAt(r);
        if (bird == null || row == null || p < 0 || p > GUST_PARTS) return BAD;
        if (bird.spot.fell != 0) return STATE;
        if (!row.isThere()) return refuse(NOTHING);
        if (row.size() > MOST_PLAN) return refuse(SIZE);
        if (!holdsBeatsAlone(row)) return refuse(UNLIKE);
        flight.board(bird, now.sun);
        tell(gusts.chanceOf(bird.spot, p, row), CERTAIN);
        return 1;
    }

    public int odds(int i, int p) {
        Bird bird = now.birdAt(i);
        if (bird == null || p < 0 || p > GUST_PARTS) return BAD;
        if (bird.spot.fell != 0) return STATE;
        flight.board(bird, now.sun);
        tell(gusts.chanceOf(bird.spot, p, null), CERTAIN);
        return 1;
    }

    public int choice(int i, int p) {
        Bird bird = now.birdAt(i);
        if (bird == null || p < 0 || p > GUST_PARTS) return BAD;
        if (bird.spot.fell != 0) return STATE;
        flight.board(bird, now.sun);
        return gusts.bestBeat(bird.spot, p);
    }

    // ---- 6 boats, feathers

    public int boats(int n, int r) {
        Row row = rowAt(r);
        if (row == null || n < 1 || n > MOST_BOATS) return BAD;
        if (air.columns == 0) return STATE;
        if (n > air.columns) return refuse(SIZE);
        int nearest = COLUMNS;
        int best = 0;
        // COLUMN 0 has the highest bit: so falling numbers are rising rows
        for (int set = (1 << air.columns) - 1; set > 0; set--) {
            if (Integer.bitCount(set) != n) continue;
            int far = farthestFrom(set);
            if (far >= nearest) continue;
            nearest = far;
            best = set;
        }
        row.make(n, 0);
        int place = 0;
        for (int column = 0; column < air.columns; column++) {
            if (hasBoat(best, column)) row.set(place++, column);
        }
        return nearest;
    }

    public int drip(int i, int r) {
        Bird bird = now.birdAt(i);
        Row row = rowAt(r);
        if (bird == null || row == null) return BAD;
        if (bird.spot.fell != 0) return STATE;
        if (!row.isThere()) return refuse(NOTHING);
        if (!holdsBeatsAlone(row)) return refuse(UNLIKE);
        flight.board(bird, now.sun);
        aside.take(bird.spot);
        for (int n = 0; n < row.size(); n++) {
            int fall = flight.fly(aside, row.get(n), aside);
            if (fall == CANNOT) return NONE;
            if (flight.drips(aside)) {
                told = aside.heat;
                return aside.column;
            }
            if (fall != 0) return NONE;
        }
        return NONE;
    }

    public int feathers(int i, int set) {
        Bird bird = now.birdAt(i);
        if (bird == null || set < 0 || set >= 1 << air.columns) return BAD;
        if (bird.spot.fell != 0) return STATE;
        int many = 0;
        int ends = 0;
        setOut(bird);
        for (int n = 0; n < WAYS && walker.findNext(); n++) {
            if (walker.dripColumns() != set) continue;
            many++;
            // an empty WAY comes to no COLUMN: the HEIGHT of one who is OVER already is not told
            ends |= walker.heightsIn(air.columns - 1);
        }
        tell(many, 1);
        told = ends;
        return 1;
    }

    // ---- 7 lots

    public int lots(int i, int n, int seed) {
        Bird bird = now.birdAt(i);
        if (bird == null || n < 1 || n > MOST_LOTS || seed < 1 || seed >= LOT_MODULUS) return BAD;
        if (bird.spot.fell != 0) return STATE;
        if (now.beats + n > BEATS) return FULL;
        flight.board(bird, now.sun);
        long number = seed;
        for (int done = 0; done < n; done++) {
            number = number * LOT_FACTOR % LOT_MODULUS;
            int open = openBeats(bird);
            int many = Integer.bitCount(open);
            if (many == 0) return done;
            perform(i, bird, bitAt(open, (int) (number % many)));
        }
        return n;
    }

    // ---- 8 what is told

    public int asked() {
        return told;
    }

    public long upper() {
        return upperTold;
    }

    public long lower() {
        return lowerTold;
    }

    public int count(int what) {
        if (what < 0 || what > 8) return BAD;
        return tally(what);
    }

    public int finding() {
        return latest;
    }

    public int findings(int f) {
        if (f < NOTHING || f > SIZE) return BAD;
        return found[f];
    }

    public long digest() {
        long h = 17;
        for (int what = 0; what <= 8; what++) h = 31 * h + tally(what);
        for (int i = 0; i < FLYERS; i++) {
            Bird bird = now.birdAt(i);
            if (bird == null) continue;
            for (int what = 0; what <= 7; what++) h = 31 * h + bird.tell(what);
        }
        for (int k = 0; k < KEPT; k++) h = 31 * h + (kept[k].there ? kept[k].beats : -1);
        for (int r = 0; r < ROWS; r++) h = rows[r].digestOn(h);
        for (int t = 0; t < TEXTS; t++) h = texts[t].digestOn(h);
        return h;
    }

    // ---- what these calls share

    private Row rowAt(int r) {
        return r >= 0 && r < ROWS ? rows[r] : null;
    }

    private Row textAt(int t) {
        return t >= 0 && t < TEXTS ? texts[t] : null;
    }

    private int madeAnew(Row row, int n, int fill) {
        if (row == null || n > row.room()) return BAD;
        if (n < 0) return refuse(SIZE);
        row.make(n, fill);
        return n;
    }

    private int refuse(int finding) {
        latest = finding;
        if (finding >= NOTHING && finding <= SIZE) found[finding]++;
        return FINDING;
    }

    /** Tells a chance in lowest terms; the lower number is above 0. */
    private void tell(long upper, long lower) {
        long a = upper;
        long b = lower;
        for (int n = 0; n < 100 && b != 0; n++) {
            long rest = a % b;
            a = b;
            b = rest;
        }
        if (a <= 0) a = 1;
        upperTold = upper / a;
        lowerTold = lower / a;
    }

    private static boolean isBeat(int b) {
        return b >= DOWN && b <= UP;
    }

    private static boolean isOfKind(int kind, int asked) {
        return kind == asked || asked == OLD && kind == NIGHT || asked == LADEN && kind == ABREAST;
    }

    private static boolean holdsBeatsAlone(Row row) {
        for (int i = 0; i < row.size(); i++) {
            if (!isBeat(row.get(i))) return false;
        }
        return true;
    }

    /** A BEAT done by the FLYER who is on board, and noted: by what one falls, or why it is refused. */
    private int perform(int i, Bird bird, int beat) {
        int fall = flight.fly(bird.spot, beat, aside);
        if (fall == CANNOT) return STATE;
        if (!now.note(i, bird.spot)) return FULL;
        bird.spot.take(aside);
        return fall;
    }

    private int openBeats(Bird bird) {
        int open = 0;
        for (int b = DOWN; b <= UP; b++) {
            if (flight.fly(bird.spot, b, aside) != CANNOT) open |= 1 << b;
        }
        return open;
    }

    /** The place of a set's bit number n, counted from 0 on. */
    private static int bitAt(int set, int n) {
        int left = n;
        for (int bit = 0; bit < 31; bit++) {
            if ((set >> bit & 1) == 0) continue;
            if (left == 0) return bit;
            left--;
        }
        return 0;
    }

    private void setOut(Bird bird) {
        flight.board(bird, now.sun);
        walker.start(bird.spot);
    }

    private boolean hasWay(Spot from) {
        walker.start(from);
        return walker.findNext();
    }

    /** The numbers of LETTERS (bits) that one may get: none, and those with which there is a WAY. */
    private int loadsOf(Bird bird) {
        int bits = 1;
        if (bird == null || bird.spot.fell != 0) return bits;
        flight.board(bird, now.sun);
        for (int v = 1; v <= LETTERS; v++) {
            flight.letters = v;
            if (hasWay(bird.spot)) bits |= 1 << v;
        }
        return bits;
    }

    private static int shareOf(int shares, int i) {
        return shares >> 2 * (FLYERS - 1 - i) & LETTERS;
    }

    /** How many have LETTERS by these shares; NONE: they are not n in all, or one could not bring them over. */
    private int carriersOf(int shares, int n) {
        int carriers = 0;
        int sum = 0;
        for (int i = 0; i < FLYERS; i++) {
            int share = shareOf(shares, i);
            if ((loads[i] >> share & 1) == 0) return NONE;
            sum += share;
            if (share > 0) carriers++;
        }
        return sum == n ? carriers : NONE;
    }

    private void writeShares(int shares, Row row) {
        row.make(now.flyers, 0);
        for (int i = 0; i < now.flyers; i++) row.set(i, shareOf(shares, i));
    }

    private boolean hasBoat(int set, int column) {
        return (set >> (air.columns - 1 - column) & 1) == 1;
    }

    private int farthestFrom(int set) {
        int farthest = 0;
        for (int column = 0; column < air.columns; column++) {
            int near = COLUMNS;
            for (int boat = 0; boat < air.columns; boat++) {
                if (hasBoat(set, boat)) near = Math.min(near, Math.abs(boat - column));
            }
            farthest = Math.max(farthest, near);
        }
        return farthest;
    }

    private int tally(int what) {
        switch (what) {
            case 0: return now.flyers;
            case 1: return air.columns;
            case 2: return air.heights;
            case 3: return now.sun;
            case 4: return now.beats;
            case 5: return now.oldOnes();
            case 6: return thereOf(rows);
            case 7: return thereOf(texts);
            default: return keptSkies();
        }
    }

    private static int thereOf(Row[] some) {
        int there = 0;
        for (int n = 0; n < some.length; n++) {
            if (some[n].isThere()) there++;
        }
        return there;
    }

    private int keptSkies() {
        int there = 0;
        for (int k = 0; k < KEPT; k++) {
            if (kept[k].there) there++;
        }
        return there;
    }

    /** A ROW, or a TEXT's bytes; missing while its size is below 0. */
    private static final class Row {
        private final int[] places;
        private int size = -1;

        Row(int most) {
            places = new int[Math.max(0, most)];
        }

        int room() {
            return places.length;
        }

        int size() {
            return size;
        }

        boolean isThere() {
            return size >= 0;
        }

        boolean has(int i) {
            return i >= 0 && i < size && i < places.length;
        }

        boolean hasRun(int i, int n) {
            return i >= 0 && n >= 0 && n <= size && i <= size - n;
        }

        int get(int i) {
            return i >= 0 && i < size && i < places.length ? places[i] : 0;
        }

        void set(int i, int v) {
            if (has(i)) places[i] = v;
        }

        void drop() {
            size = -1;
        }

        void make(int n, int fill) {
            size = Math.max(0, Math.min(n, places.length));
            for (int i = 0; i < size; i++) places[i] = fill;
        }

        void takeRun(int j, Row from, int i, int n) {
            if (!hasRun(j, n) || !from.hasRun(i, n)) return;
            System.arraycopy(from.places, i, places, j, n);
        }

        long digestOn(long before) {
            long h = 31 * before + size;
            for (int i = 0; i < size; i++) h = 31 * h + get(i);
            return h;
        }
    }

    /** The cells between the islands; no COLUMNS at first. */
    private static final class Air {
        private final int[] cells = new int[COLUMNS * HEIGHTS];
        private int columns;
        private int heights;

        /** What a cell holds; where there is none it is as closed as a ROCK. */
        int look(int column, int height) {
            if (column < 0 || column >= columns || height < 0 || height >= heights) return ROCK;
            int cell = height * COLUMNS + column;
            return cell < cells.length ? cells[cell] : ROCK;
        }

        void fill(int column, int height, int sign) {
            int cell = height * COLUMNS + column;
            if (cell >= 0 && cell < cells.length) cells[cell] = sign;
        }

        void take(Air from) {
            columns = from.columns;
            heights = from.heights;
            for (int cell = 0; cell < cells.length; cell++) cells[cell] = from.cells[cell];
        }
    }

    /** Where a FLYER is, and how. */
    private static final class Spot {
        private int column;
        private int height;
        private int strength;
        private int heat;
        private int clog;
        private int fell;

        void take(Spot from) {
            column = from.column;
            height = from.height;
            strength = from.strength;
            heat = from.heat;
            clog = from.clog;
            fell = from.fell;
        }
    }

    private static final class Bird {
        private final Spot spot = new Spot();
        private int kind;
        private int wax;
        private int letters;

        void take(Bird from) {
            spot.take(from.spot);
            kind = from.kind;
            wax = from.wax;
            letters = from.letters;
        }

        void begin(int itsKind, int itsWax, int itsStrength, int itsHeight) {
            kind = itsKind;
            wax = itsWax;
            letters = 0;
            spot.column = 0;
            spot.height = itsHeight;
            spot.strength = itsStrength;
            spot.heat = 0;
            spot.clog = 0;
            spot.fell = 0;
        }

        int tell(int what) {
            switch (what) {
                case 0: return kind;
                case 1: return spot.column;
                case 2: return spot.height;
                case 3: return spot.strength;
                case 4: return spot.heat;
                case 5: return spot.clog;
                case 6: return letters;
                default: return spot.fell;
            }
        }
    }

    /** FLYERS, the SUN and the BEATS done, with where one was ahead of each: so they can be undone. */
    private static final class Sky {
        private final Bird[] birds = new Bird[FLYERS];
        private final int[] who = new int[BEATS];
        private final Spot[] past = new Spot[BEATS];
        private boolean there;
        private int flyers;
        private int sun;
        private int beats;

        Sky() {
            for (int i = 0; i < FLYERS; i++) birds[i] = new Bird();
            for (int n = 0; n < BEATS; n++) past[n] = new Spot();
        }

        Bird birdAt(int i) {
            return i >= 0 && i < flyers && i < FLYERS ? birds[i] : null;
        }

        int oldOnes() {
            int old = 0;
            for (int i = 0; i < flyers && i < FLYERS; i++) {
                if (isOfKind(birds[i].kind, OLD)) old++;
            }
            return old;
        }

        int othersIn(int one, int column) {
            int others = 0;
            for (int i = 0; i < flyers && i < FLYERS; i++) {
                if (i != one && birds[i].spot.column == column) others++;
            }
            return others;
        }

        /** Notes where one is ahead of a BEAT; false: there is no room for it. */
        boolean note(int i, Spot spot) {
            if (beats < 0 || beats >= BEATS) return false;
            who[beats] = i;
            past[beats].take(spot);
            beats++;
            return true;
        }

        /** Undoes the BEATS from number n on, the last first: how many. */
        int goBack(int n) {
            int undone = 0;
            for (int k = Math.min(beats, BEATS) - 1; k >= 0 && k >= n; k--) {
                Bird bird = birdAt(who[k]);
                if (bird != null) bird.spot.take(past[k]);
                undone++;
            }
            beats -= undone;
            return undone;
        }

        void drop() {
            there = false;
        }

        void take(Sky from) {
            there = true;
            flyers = from.flyers;
            sun = from.sun;
            beats = from.beats;
            for (int i = 0; i < FLYERS; i++) birds[i].take(from.birds[i]);
            for (int n = 0; n < beats && n < BEATS; n++) {
                who[n] = from.who[n];
                past[n].take(from.past[n]);
            }
        }
    }

    /** Reads a TEXT as a SKY, place by place; where it can't go on is the FAULT. */
    private static final class Reader {
        /** Beyond the text's end; no byte is this. */
        private static final int END = 1000;

        private final Air air = new Air();
        private final Sky sky = new Sky();
        private Row text;
        private int place;

        int place() {
            return place;
        }

        boolean read(Row from) {
            text = from;
            place = 0;
            skipBlanks();
            return readLines() && readSun() && readFlyers() && readEnd();
        }

        void hand(Air airTo, Sky skyTo) {
            airTo.take(air);
            skyTo.take(sky);
        }

        private int here() {
            return text != null && text.has(place) ? text.get(place) : END;
        }

        private void skipBlanks() {
            while (place < TEXT_SIZE && here() == BLANK) place++;
        }

        private boolean readLines() {
            air.columns = 0;
            air.heights = 0;
            for (int line = 0; line < HEIGHTS; line++) {
                if (!readLine(line)) return false;
                int sign = here();
                boolean ends = sign == EQUALS;
                if (!ends && (sign != SLASH || line == HEIGHTS - 1)) return false;
                place++;
                if (ends) return true;
            }
            return false;
        }

        private boolean readLine(int line) {
            int most = line == 0 ? COLUMNS : air.columns;
            int column = 0;
            while (column < most) {
                int sign = placeOf(here(), SIGNS);
                if (sign < 0) break;
                air.fill(column, line, sign);
                column++;
                place++;
            }
            if (line == 0) air.columns = column;
            air.heights = line + 1;
            return column >= 2 && column == air.columns;
        }

        private boolean readSun() {
            int figure = figureBelow(MOST_SUN + 1);
            if (figure < 0) return false;
            sky.sun = figure;
            place++;
            return true;
        }

        private boolean readFlyers() {
            sky.flyers = 0;
            for (int i = 0; i < FLYERS; i++) {
                int kind = placeOf(here(), KIND_LETTERS);
                if (kind < 0) return true;
                place++;
                if (!readFlyer(i, kind)) return false;
                sky.flyers = i + 1;
            }
            return true;
        }

        private boolean readFlyer(int i, int kind) {
            int wax = figureBelow(10);
            if (wax < 0) return false;
            place++;
            int strength = figureBelow(10);
            if (strength < 0) return false;
            place++;
            int height = figureBelow(air.heights);
            if (height < 0 || air.look(0, height) == ROCK) return false;
            place++;
            if (i >= 0 && i < FLYERS) sky.birds[i].begin(kind, wax, strength, height);
            return true;
        }

        private boolean readEnd() {
            skipBlanks();
            return here() == END;
        }

        /** The figure that stands here, if it is one below a bound; -1: it is not. */
        private int figureBelow(int bound) {
            int figure = here() - FIGURE;
            return figure >= 0 && figure <= 9 && figure < bound ? figure : -1;
        }

        private static int placeOf(int sign, int[] signs) {
            for (int n = 0; n < signs.length; n++) {
                if (signs[n] == sign) return n;
            }
            return -1;
        }
    }

    /** How one flies: what a BEAT costs and does to a FLYER of a KIND with so much wax, LETTERS, SUN. */
    private static final class Flight {
        private final Air air;
        private int kind;
        private int wax;
        private int letters;
        private int sun;

        Flight(Air air) {
            this.air = air;
        }

        void board(Bird bird, int sunNow) {
            kind = bird.kind;
            wax = bird.wax;
            letters = bird.letters;
            sun = sunNow;
        }

        boolean isOver(Spot spot) {
            return spot.column >= air.columns - 1;
        }

        boolean drips(Spot spot) {
            return spot.heat > wax / 2;
        }

        int cost(int beat) {
            int cost = beat == UP ? 2 + letters : beat == LEVEL ? 1 : 0;
            if (kind == OLD || kind == NIGHT) cost = beat == UP ? cost + 1 : 0;
            if ((kind == LADEN || kind == ABREAST) && beat == LEVEL) cost += letters;
            return kind == ABREAST ? Math.max(0, cost - 1) : cost;
        }

        /** By how much HEAT grows at a HEIGHT without a CLOUD. */
        int warmth(int height) {
            int more = Math.max(0, height + sun - 4);
            if (kind == NIGHT) return 0;
            return kind == FIRST ? 2 * more : more;
        }

        /** Where a BEAT takes one, ahead of HEAT and CLOG; false: it can't be. Both spots may be the same. */
        boolean move(Spot from, int beat, Spot to) {
            if (from.fell != 0 || isOver(from)) return false;
            int cell = air.look(from.column, from.height);
            int height = from.height + beat - LEVEL;
            int column = Math.min(from.column + (cell == WIND ? 2 : 1), air.columns - 1);
            if (air.look(column, height) == ROCK) return false;
            to.take(from);
            to.column = column;
            to.height = height;
            if (cell != THERMAL) to.strength -= cost(beat);
            return true;
        }

        boolean canSink(Spot spot) {
            return air.look(spot.column, spot.height - 1) != ROCK;
        }

        /** HEAT and CLOG where one came to, and whether one falls by it. */
        void settle(Spot spot) {
            int cell = air.look(spot.column, spot.height);
            spot.heat = cell == CLOUD ? Math.max(0, spot.heat - 1) : spot.heat + warmth(spot.height);
            boolean wet = spot.height == 0 || cell == SPRAY;
            spot.clog = wet ? spot.clog + 1 : Math.max(0, spot.clog - 1);
            spot.fell = spot.strength < 0 ? 1 : spot.heat > wax ? 2 : spot.clog > 2 ? 3 : 0;
        }

        /** By what one falls behind a BEAT (0: one does not), or CANNOT. Both spots may be the same. */
        int fly(Spot from, int beat, Spot to) {
            if (!move(from, beat, to)) return CANNOT;
            settle(to);
            return to.fell;
        }
    }

    /** Goes through the WAYS of the FLYER on board, one by one, in their order. */
    private static final class Walker {
        private final Flight flight;
        private final Spot[] trail = new Spot[WAY_SIZE + 1];
        /** The BEAT done at each spot of the trail; ahead of the first one it is below DOWN. */
        private final int[] beats = new int[WAY_SIZE + 1];
        private int depth;
        private boolean fresh;

        Walker(Flight flight) {
            this.flight = flight;
            for (int n = 0; n <= WAY_SIZE; n++) trail[n] = new Spot();
        }

        void start(Spot from) {
            trail[0].take(from);
            beats[0] = DOWN - 1;
            depth = 0;
            fresh = true;
        }

        void strengthen(int strength) {
            trail[0].strength = strength;
        }

        /** Goes on to the next WAY; false: there is none more. */
        boolean findNext() {
            boolean first = fresh;
            fresh = false;
            if (first && flight.isOver(trail[0])) return true;
            for (int n = 0; n < TRIES && depth >= 0; n++) {
                if (depth >= WAY_SIZE || beats[depth] >= UP || flight.isOver(trail[depth])) {
                    depth--;
                    continue;
                }
                beats[depth]++;
                if (flight.fly(trail[depth], beats[depth], trail[depth + 1]) != 0) continue;
                depth++;
                beats[depth] = DOWN - 1;
                if (flight.isOver(trail[depth])) return true;
            }
            return false;
        }

        int size() {
            return Math.max(0, Math.min(depth, WAY_SIZE));
        }

        Spot end() {
            return trail[size()];
        }

        void write(Row row) {
            row.make(size(), 0);
            for (int n = 0; n < size(); n++) row.set(n, beats[n]);
        }

        /** HEIGHTS (bits) at which this WAY comes to a COLUMN. */
        int heightsIn(int column) {
            int bits = 0;
            for (int n = 1; n <= size(); n++) {
                if (trail[n].column == column) bits |= 1 << trail[n].height;
            }
            return bits;
        }

        /** COLUMNS (bits) ahead in which wax drips on this WAY. */
        int dripColumns() {
            int bits = 0;
            for (int n = 1; n <= size(); n++) {
                if (flight.drips(trail[n])) bits |= 1 << trail[n].column;
            }
            return bits;
        }
    }

    /** Chances of the FLYER on board in GUSTS, as parts of CERTAIN. */
    private static final class Gusts {
        private final Flight flight;
        private final Spot[] trail = new Spot[WAY_SIZE + 1];
        private int force;
        /** The PLAN one keeps to; null: one chooses freely. */
        private Row script;

        Gusts(Flight flight) {
            this.flight = flight;
            for (int n = 0; n <= WAY_SIZE; n++) trail[n] = new Spot();
        }

        int chanceOf(Spot from, int p, Row planned) {
            begin(from, p, planned);
            return chance(0);
        }

        /** The first BEAT of those with the greatest chances; NONE: they are 0, or one is OVER. */
        int bestBeat(Spot from, int p) {
            begin(from, p, null);
            if (flight.isOver(from)) return NONE;
            int best = 0;
            int beat = NONE;
            for (int b = DOWN; b <= UP; b++) {
                int chances = chanceBy(0, b);
                if (chances <= best) continue;
                best = chances;
                beat = b;
            }
            return beat;
        }

        private void begin(Spot from, int p, Row planned) {
            trail[0].take(from);
            force = p;
            script = planned;
        }

        private int chance(int depth) {
            if (depth < 0 || depth > WAY_SIZE || trail[depth].fell != 0) return 0;
            if (flight.isOver(trail[depth])) return CERTAIN;
            if (script != null) return script.has(depth) ? chanceBy(depth, script.get(depth)) : 0;
            int best = 0;
            for (int b = DOWN; b <= UP && best < CERTAIN; b++) best = Math.max(best, chanceBy(depth, b));
            return best;
        }

        private int chanceBy(int depth, int beat) {
            if (depth < 0 || depth >= WAY_SIZE || !flight.move(trail[depth], beat, trail[depth + 1])) return 0;
            Spot to = trail[depth + 1];
            if (force == 0 || flight.isOver(to) || !flight.canSink(to)) return settledChance(depth + 1);
            to.height--;
            int sunk = settledChance(depth + 1);
            if (force == GUST_PARTS) return sunk;
            // what comes behind has used the spot: the BEAT is done again for the calm
            flight.move(trail[depth], beat, to);
            int calm = settledChance(depth + 1);
            return (force * sunk + (GUST_PARTS - force) * calm) / GUST_PARTS;
        }

        private int settledChance(int depth) {
            if (depth < 0 || depth > WAY_SIZE) return 0;
            flight.settle(trail[depth]);
            return chance(depth);
        }
    }
}
