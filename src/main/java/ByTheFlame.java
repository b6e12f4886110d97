import java.util.Arrays;

/** Cloth by how long it burns: wicks, their burning, the spans of time that they tell. */
public final class ByTheFlame {
    public static final int NONE = -1, BAD = -2, STATE = -3, FULL = -4;
    public static final long NO = -4611686018427387904L;

    private static final int NOTHING = -11, OUTSIDE = -12, UNLIKE = -13, BELOW = -14;

    private static final int MOST_WICKS = 4, MOST_PARTS = 99, MOST_BURNT = 999, MOST_NUMBER = 9;
    private static final int MOST_DAMP = 9, MOST_MOMENT = 9999, MOST_ENDS = 2, MOST_BURNING = 250;
    private static final int MOST_SPAN = 400, BLOCK = 31, MOST_BLOCK = 12, MOST_SURE = 60;
    private static final int MOST_ASH = 9999, MOST_COPIES = 12, MOST_BRANCH = 4, MOST_SEEDS = 20;
    private static final int MOST_COSTS = 99, MOST_WORTH = 999, MOST_DRIFT = 99;
    private static final int MOST_TAPE = 160, MOST_TEXTS = 6;
    private static final int SHEETS = 4, MOST_ITEMS = 40, MOST_ROWS = 5, ITEMS_OF_ROW = 3;

    private static final int WICK = 0, OILED = 1, GREEN = 2, WAXED = 3, ROPE = 4, TWISTED = 5, KINDS = 6;
    /** The kind that each kind is directly under; NONE above WICK. */
    private static final int[] ABOVE = {NONE, WICK, WICK, OILED, GREEN, OILED};

    private static final int COSTS = 0, WORTH = 1, DRIFT = 2, SECTIONS = 3;
    private static final int MISSING = -1, BYTES = 0, SHORTS = 1, INTS = 2;

    private final Cloth cloth = new Cloth();
    private final Cloth kept = new Cloth();
    private final Cloth thought = new Cloth();
    private final Texts texts = new Texts();
    private final Telling telling = new Telling(cloth, texts);
    private final Sheets sheets = new Sheets();
    private final int[] copyOff = new int[MOST_COPIES + 1];
    private final int[] copyBehind = new int[MOST_COPIES + 1];
    private boolean imaged = false;

    public ByTheFlame() {
    }

    // ---- wicks

    public int wick(int kind, int number, int parts) {
        if (!within(kind, 0, KINDS - 1) || !within(number, 0, MOST_NUMBER) || !within(parts, 1, MOST_PARTS)) {
            return BAD;
        }
        if (cloth.count >= MOST_WICKS) {
            return FULL;
        }
        telling.forget();
        return cloth.add(kind, number, parts);
    }

    public int set(int what, int of, int v) {
        if (!within(what, 0, 5) || !within(v, 0, mostOf(what)) || (what < 4 && !cloth.has(of))) {
            return BAD;
        }
        if (what == 1 && v > 0 && cloth.parts[of] == 0) {
            return STATE;
        }
        telling.forget();
        if (what == 4) {
            return setDamp(v);
        }
        return what == 5 ? setMoment(v) : cloth.change(what, of, v);
    }

    private static int mostOf(int what) {
        switch (what) {
            case 0: return MOST_PARTS;
            case 1: return MOST_ENDS;
            case 2: return MOST_BURNT;
            case 3: return MOST_NUMBER;
            case 4: return MOST_DAMP;
            default: return MOST_MOMENT;
        }
    }

    private int setDamp(int v) {
        int was = cloth.damp;
        cloth.damp = v;
        return was;
    }

    private int setMoment(int v) {
        int was = cloth.moment;
        cloth.moment = v;
        return was;
    }

    public int told(int wick, int what) {
        if (!cloth.has(wick)) {
            return BAD;
        }
        switch (what) {
            case 0: return cloth.parts[wick];
            case 1: return cloth.lit[wick];
            case 2: return cloth.burnt[wick];
            case 3: return cloth.number[wick];
            case 4: return cloth.kind[wick];
            case 5: return cloth.fast(wick, cloth.lit[wick], cloth.damp);
            case 6: return cloth.ash(wick, cloth.burnt[wick]);
            case 7: return cloth.fast(wick, 1, cloth.damp);
            case 8: return cloth.fast(wick, 2, cloth.damp);
            default: return BAD;
        }
    }

    // ---- texts

    public int feed(int letter) {
        if (!within(letter, 0, 255)) {
            return BAD;
        }
        return texts.append(letter);
    }

    public int text() {
        return texts.take();
    }

    public int force(int text) {
        if (!within(text, 0, texts.count - 1)) {
            return BAD;
        }
        int was = cloth.rule;
        cloth.rule = text;
        telling.forget();
        return was;
    }

    // ---- burning

    public int light(int wick, int ends) {
        if (!cloth.has(wick) || !within(ends, 1, MOST_ENDS)) {
            return BAD;
        }
        if (!cloth.kindles(wick, ends)) {
            return STATE;
        }
        telling.forget();
        return cloth.lit[wick];
    }

    public int burn(int n) {
        if (!within(n, 0, MOST_BURNING)) {
            return BAD;
        }
        telling.forget();
        return cloth.pass(n);
    }

    public int out(int wick) {
        if (!cloth.has(wick)) {
            return BAD;
        }
        return cloth.lit[wick] == 0 ? NONE : cloth.lasts(wick, cloth.lit[wick], cloth.damp);
    }

    // ---- telling spans

    public int spans(int some, int block) {
        if (!within(block, 0, MOST_BLOCK) || !cloth.unlit(some)) {
            return BAD;
        }
        telling.search(some, false);
        int bits = 0;
        for (int i = 0; i < BLOCK; i++) {
            if (telling.tells(BLOCK * block + i)) {
                bits |= 1 << i;
            }
        }
        return bits;
    }

    public int tell(int some, int span, int what) {
        if (!within(span, 1, MOST_SPAN) || !within(what, 0, 2) || !cloth.unlit(some)) {
            return BAD;
        }
        telling.search(some, what == 1);
        if (!telling.tells(span)) {
            return NONE;
        }
        if (what == 1) {
            return telling.cheapestOf(span);
        }
        return what == 0 ? telling.leastOf(span) : telling.firstOf(span);
    }

    public int between(int some, int span) {
        if (!within(span, 1, MOST_SPAN) || !cloth.unlit(some)) {
            return BAD;
        }
        telling.search(some, false);
        return telling.liesBetween(span) ? 1 : 0;
    }

    public int worth(int some, int what) {
        if (!within(what, 0, 1) || !cloth.unlit(some)) {
            return BAD;
        }
        telling.search(some, false);
        int most = NONE;
        int dearest = NONE;
        for (int span = 1; span <= MOST_SPAN; span++) {
            int worth = telling.tells(span) ? worthOf(span) : NONE;
            if (worth > most) {
                most = worth;
                dearest = span;
            }
        }
        return what == 0 ? dearest : most;
    }

    private int worthOf(int span) {
        texts.name(0, cloth.damp, 0, 0, 0, span);
        return texts.bounded(cloth.rule, WORTH, MOST_WORTH);
    }

    public long sure(int some) {
        return cloth.unlit(some) ? telling.inAnyDamp(some) : NO;
    }

    // ---- cheats, ash, copies

    public int cheat(int wick) {
        if (!cloth.has(wick) || cloth.parts[wick] == 0) {
            return BAD;
        }
        int dry = cloth.lasts(wick, 1, 0);
        for (int damp = 0; damp <= MOST_DAMP; damp++) {
            if (cloth.lasts(wick, 1, damp) > dry) {
                return damp;
            }
        }
        return NONE;
    }

    public int which(int ash) {
        if (!within(ash, 0, MOST_ASH)) {
            return BAD;
        }
        int bits = 0;
        for (int w = 0; w < cloth.count; w++) {
            int burnt = Math.min(MOST_BURNT, cloth.burnt[w] + cloth.parts[w]);
            if (cloth.ash(w, burnt) == ash) {
                bits |= 1 << w;
            }
        }
        return bits;
    }

    public int copies(int wick, int n, int branch) {
        if (!cloth.has(wick) || !within(n, 1, MOST_COPIES) || !within(branch, 1, MOST_BRANCH)) {
            return BAD;
        }
        return farthestOff(wick, n, branch);
    }

    private int farthestOff(int wick, int n, int branch) {
        int farthest = 0;
        for (int k = 1; k <= n && k <= MOST_COPIES && branch > 0; k++) {
            int from = (k - 1) / branch;
            copyBehind[k] = copyBehind[from] + 1;
            texts.name(cloth.parts[wick], cloth.damp, 0, 0, k, copyBehind[k]);
            copyOff[k] = copyOff[from] + texts.bounded(cloth.rule, DRIFT, MOST_DRIFT);
            farthest = Math.max(farthest, copyOff[k]);
        }
        return farthest;
    }

    public int best(int wick, int n, int what) {
        if (!cloth.has(wick) || !within(n, 1, MOST_COPIES) || !within(what, 0, 1)) {
            return BAD;
        }
        int branch = 1;
        int least = farthestOff(wick, n, branch);
        for (int b = 2; b <= MOST_BRANCH; b++) {
            int off = farthestOff(wick, n, b);
            if (off < least) {
                least = off;
                branch = b;
            }
        }
        return what == 0 ? branch : least;
    }

    public int judge(int sheet) {
        if (!sheets.has(sheet)) {
            return BAD;
        }
        if (sheets.lacks(sheet)) {
            return NOTHING;
        }
        int size = sheets.size[sheet];
        if (size % ITEMS_OF_ROW != 0) {
            return BAD;
        }
        thought.takeOver(cloth);
        int now = 0;
        for (int row = 0; row < size / ITEMS_OF_ROW; row++) {
            if (!follows(sheet, row * ITEMS_OF_ROW, now)) {
                return row;
            }
            now = sheets.item(sheet, row * ITEMS_OF_ROW);
        }
        return NONE;
    }

    /** Whether the row from item i on can be done in thought, so many moments having gone by; if so, it is. */
    private boolean follows(int sheet, int i, int now) {
        int moments = sheets.item(sheet, i);
        int wick = sheets.item(sheet, i + 1);
        int ends = sheets.item(sheet, i + 2);
        if (!within(moments, now, MOST_BURNING) || !thought.has(wick) || !within(ends, 1, MOST_ENDS)) {
            return false;
        }
        thought.pass(moments - now);
        return thought.kindles(wick, ends);
    }

    public int drawn(int seed) {
        int z = seed;
        int last = 0;
        for (int w = 0; w < cloth.count; w++) {
            z = z * 1103515245 + 12345;
            int ends = cloth.lit[w] == 0 ? (z >>> 11) % 3 : cloth.lit[w];
            last = Math.max(last, cloth.lasts(w, ends, cloth.damp));
        }
        return last;
    }

    public long chance(int seed, int n, int span, int part) {
        if (!within(n, 1, MOST_SEEDS) || !within(span, 0, MOST_BURNING) || !within(part, 0, 1)) {
            return NO;
        }
        int hits = 0;
        for (int i = 0; i < n; i++) {
            if (drawn(seed + i) == span) {
                hits++;
            }
        }
        return inLowestTerms(part == 0 ? hits : n, hits, n);
    }

    /** What one side of above / below becomes when both are divided by all that they have in common. */
    private static int inLowestTerms(int side, int above, int below) {
        for (int d = below; d > 1; d--) {
            if (above % d == 0 && below % d == 0) {
                return side / d;
            }
        }
        return side;
    }

    public int image() {
        kept.takeOver(cloth);
        imaged = true;
        return kept.count;
    }

    public int back() {
        if (!imaged) {
            return STATE;
        }
        cloth.takeOver(kept);
        telling.forget();
        return cloth.count;
    }

    public int count(int what) {
        switch (what) {
            case 0: return cloth.count;
            case 1: return cloth.burning();
            case 2: return cloth.damp;
            case 3: return cloth.moment;
            case 4: return texts.count;
            case 5: return texts.size;
            case 6: return cloth.rule;
            case 7: return cloth.partsInAll();
            default: return BAD;
        }
    }

    // ---- the host

    public int sheet(int sheet, int sort, int n) {
        if (!sheets.has(sheet) || !within(sort, MISSING, INTS)) {
            return BAD;
        }
        if (sort != MISSING && n > MOST_ITEMS) {
            return BAD;
        }
        if (sort != MISSING && n < 0) {
            return BELOW;
        }
        sheets.lay(sheet, sort, n);
        return 1;
    }

    public int cell(int sheet, int i, int v) {
        if (!sheets.has(sheet)) {
            return BAD;
        }
        if (sheets.lacks(sheet)) {
            return NOTHING;
        }
        if (!sheets.reaches(sheet, i, 1)) {
            return OUTSIDE;
        }
        sheets.put(sheet, i, v);
        return 1;
    }

    public int copy(int sheet, int i, int other, int j, int n) {
        if (!sheets.has(sheet) || !sheets.has(other)) {
            return BAD;
        }
        if (sheets.lacks(sheet) || sheets.lacks(other)) {
            return NOTHING;
        }
        if (sheets.sort[sheet] != sheets.sort[other]) {
            return UNLIKE;
        }
        if (!sheets.reaches(sheet, i, n) || !sheets.reaches(other, j, n)) {
            return OUTSIDE;
        }
        System.arraycopy(sheets.rows[sheet], i, sheets.rows[other], j, n);
        return n;
    }

    public int wicks(int sheet, int sort, int from, int n) {
        if (!sheets.has(sheet) || !within(sort, BYTES, INTS) || !within(n, 0, MOST_ROWS)) {
            return BAD;
        }
        if (sheets.lacks(sheet)) {
            return NOTHING;
        }
        if (sheets.sort[sheet] != sort) {
            return UNLIKE;
        }
        int came = 0;
        for (int row = 0; row < n; row++) {
            // from may be any int: it is compared ahead of the sum, which can't wrap then
            if (from > MOST_ITEMS || !sheets.reaches(sheet, from + row * ITEMS_OF_ROW, ITEMS_OF_ROW)) {
                return OUTSIDE;
            }
            if (wickBy(sheet, from + row * ITEMS_OF_ROW) >= 0) {
                came++;
            }
        }
        return came;
    }

    private int wickBy(int sheet, int i) {
        return wick(sheets.item(sheet, i), sheets.item(sheet, i + 1), sheets.item(sheet, i + 2));
    }

    public int taken(int wick, int k) {
        if (!within(k, 0, KINDS - 1)) {
            return BAD;
        }
        if (!cloth.has(wick)) {
            return NOTHING;
        }
        return isUnder(cloth.kind[wick], k) ? cloth.number[wick] : UNLIKE;
    }

    /** Whether a kind is k or under k, also by others between. */
    private static boolean isUnder(int kind, int k) {
        int at = kind;
        for (int i = 0; i < KINDS && at >= 0 && at < KINDS; i++) {
            if (at == k) {
                return true;
            }
            at = ABOVE[at];
        }
        return false;
    }

    private static boolean within(int v, int least, int most) {
        return v >= least && v <= most;
    }

    /** The wicks with damp, moment and rule: as they are, as an image keeps them, or as they are thought to be. */
    private static final class Cloth {
        final int[] kind = new int[MOST_WICKS];
        final int[] number = new int[MOST_WICKS];
        final int[] parts = new int[MOST_WICKS];
        final int[] lit = new int[MOST_WICKS];
        final int[] burnt = new int[MOST_WICKS];
        int count = 0;
        int damp = 0;
        int moment = 0;
        int rule = 0;

        boolean has(int w) {
            return w >= 0 && w < count && w < MOST_WICKS;
        }

        /** The caller has seen that there is room. */
        int add(int newKind, int newNumber, int newParts) {
            int w = count;
            if (w >= MOST_WICKS) {
                return FULL;
            }
            kind[w] = newKind;
            number[w] = newNumber;
            parts[w] = newParts;
            lit[w] = 0;
            burnt[w] = 0;
            count = w + 1;
            return w;
        }

        /** PARTS (0), LIT (1), BURNT (2) or NUMBER (3) of a wick becomes v: what it was. */
        int change(int what, int w, int v) {
            int[] row = what == 0 ? parts : what == 1 ? lit : what == 2 ? burnt : number;
            if (!has(w)) {
                return BAD;
            }
            int was = row[w];
            row[w] = v;
            if (parts[w] == 0) {
                lit[w] = 0;
            }
            return was;
        }

        void takeOver(Cloth other) {
            System.arraycopy(other.kind, 0, kind, 0, MOST_WICKS);
            System.arraycopy(other.number, 0, number, 0, MOST_WICKS);
            System.arraycopy(other.parts, 0, parts, 0, MOST_WICKS);
            System.arraycopy(other.lit, 0, lit, 0, MOST_WICKS);
            System.arraycopy(other.burnt, 0, burnt, 0, MOST_WICKS);
            count = other.count;
            damp = other.damp;
            moment = other.moment;
            rule = other.rule;
        }

        int fast(int w, int ends, int inDamp) {
            return ends <= 0 || !has(w) ? 0 : Math.max(1, fastOf(kind[w], number[w], ends, inDamp));
        }

        private static int fastOf(int ofKind, int ofNumber, int ends, int inDamp) {
            int oiled = ends + ends;
            int green = inDamp > ofNumber ? ends - 1 : ends;
            switch (ofKind) {
                case OILED: return oiled;
                case GREEN: return green;
                case WAXED: return ends == 2 ? oiled + ofNumber % 3 : oiled;
                case ROPE: return ends == 1 ? 1 : green;
                case TWISTED: return oiled - inDamp / 2;
                default: return ends;
            }
        }

        int ash(int w, int ofBurnt) {
            return has(w) ? Math.max(0, ashOf(kind[w], number[w], ofBurnt)) : 0;
        }

        private static int ashOf(int ofKind, int ofNumber, int ofBurnt) {
            int oiled = ofBurnt / 2;
            int green = ofBurnt + ofNumber;
            switch (ofKind) {
                case OILED: return oiled;
                case GREEN: return green;
                case WAXED: return oiled - ofNumber;
                case ROPE: return 2 * green;
                case TWISTED: return oiled + ofBurnt / 3;
                default: return ofBurnt;
            }
        }

        /** In how many moments the parts of a wick burn, so many ends being lit; 0: none burn. */
        int lasts(int w, int ends, int inDamp) {
            int speed = fast(w, ends, inDamp);
            return speed <= 0 ? 0 : (parts[w] + speed - 1) / speed;
        }

        /** Ends of a wick are lit, if it has parts and so many ends that aren't lit: whether they are. */
        boolean kindles(int w, int ends) {
            if (!has(w) || parts[w] == 0 || lit[w] + ends > MOST_ENDS) {
                return false;
            }
            lit[w] += ends;
            return true;
        }

        /** Moments (MOST_BURNING at most) go by: how many wicks go out. Nothing is lit meanwhile, so no speed changes. */
        int pass(int moments) {
            int gone = 0;
            for (int w = 0; w < count; w++) {
                if (lit[w] > 0 && goesOut(w, moments)) {
                    gone++;
                }
            }
            moment = Math.min(MOST_MOMENT, moment + moments);
            return gone;
        }

        private boolean goesOut(int w, int moments) {
            int eaten = Math.min(parts[w], moments * fast(w, lit[w], damp));
            parts[w] -= eaten;
            burnt[w] = Math.min(MOST_BURNT, burnt[w] + eaten);
            if (parts[w] > 0) {
                return false;
            }
            lit[w] = 0;
            return true;
        }

        /** Whether some (bits) are wicks, each of which has parts and isn't lit. */
        boolean unlit(int some) {
            if (some < 0 || some >= 1 << count) {
                return false;
            }
            for (int w = 0; w < count; w++) {
                if ((some >> w & 1) == 1 && (parts[w] == 0 || lit[w] > 0)) {
                    return false;
                }
            }
            return true;
        }

        int burning() {
            int n = 0;
            for (int w = 0; w < count; w++) {
                n += lit[w] > 0 ? 1 : 0;
            }
            return n;
        }

        int partsInAll() {
            int sum = 0;
            for (int w = 0; w < count; w++) {
                sum += parts[w];
            }
            return sum;
        }
    }

    /** Goes through all tellings by some wicks and keeps, for each span, what the best of them are. */
    private static final class Telling {
        // A moment in which any goes out is an event: no more events than wicks, and the beginning ahead of them.
        private static final int DEPTHS = MOST_WICKS + 1;
        // A span's place in the rows; blocks of spans reach a little farther than spans do.
        private static final int PLACES = BLOCK * (MOST_BLOCK + 1);
        private static final int STATES = MOST_ENDS + 1;
        private static final int UNTOLD = 0x7fffffff;
        // The first lighting has a digit for each wick, so it is below this.
        private static final int LEAST_UNIT = 10000;

        private final Cloth cloth;
        private final Texts texts;
        /** For each span: least ends times LEAST_UNIT and the first lighting of these. */
        private final int[] least = new int[PLACES];
        private final int[] cheapest = new int[PLACES];
        private final int[] apart = new int[PLACES];
        /** Rows by depth: as the wicks are when ends may be lit. */
        private final int[] parts = new int[DEPTHS * MOST_WICKS];
        private final int[] lit = new int[DEPTHS * MOST_WICKS];
        /** What lighting the first and the second end costs, by place in the rows. */
        private final int[] price = new int[DEPTHS * MOST_WICKS * MOST_ENDS];
        /** How fast each wick is with no, one, both ends lit. */
        private final int[] speed = new int[MOST_WICKS * STATES];
        private final int[] events = new int[DEPTHS];
        /** What the digit of each wick is worth in the first lighting. */
        private final int[] units = new int[MOST_WICKS];
        private int known = NONE;
        private boolean priced = false;

        Telling(Cloth cloth, Texts texts) {
            this.cloth = cloth;
            this.texts = texts;
        }

        /** What was found no longer holds: something that a telling depends on has changed. */
        void forget() {
            known = NONE;
        }

        boolean tells(int span) {
            return span >= 0 && span < PLACES && least[span] != UNTOLD;
        }

        int leastOf(int span) {
            return tells(span) ? least[span] / LEAST_UNIT : NONE;
        }

        int firstOf(int span) {
            return tells(span) ? least[span] % LEAST_UNIT : NONE;
        }

        int cheapestOf(int span) {
            return tells(span) ? cheapest[span] : NONE;
        }

        boolean liesBetween(int span) {
            return span >= 0 && span < PLACES && apart[span] == 1;
        }

        /** The rows are filled for some wicks as they are; prices are asked of the rule only if wanted. */
        void search(int some, boolean withPrices) {
            if (known == some && (priced || !withPrices)) {
                return;
            }
            takeSpeeds(cloth.damp);
            goThrough(some, withPrices);
            known = some;
        }

        /** Spans, as bits, that are told in each damp. */
        long inAnyDamp(int some) {
            forget();
            long all = -1L;
            for (int damp = 0; damp <= MOST_DAMP && all != 0; damp++) {
                // damp matters by speed alone: where no speed has changed, the same spans are told
                if (takeSpeeds(damp) || damp == 0) {
                    goThrough(some, false);
                    all &= sureBits();
                }
            }
            return all;
        }

        private long sureBits() {
            long bits = 0;
            for (int span = 1; span <= MOST_SURE; span++) {
                if (tells(span)) {
                    bits |= 1L << span;
                }
            }
            return bits;
        }

        /** Whether any speed is another than it was. */
        private boolean takeSpeeds(int damp) {
            boolean changed = false;
            for (int w = 0; w < MOST_WICKS; w++) {
                for (int ends = 0; ends <= MOST_ENDS; ends++) {
                    int at = w * STATES + ends;
                    int now = cloth.fast(w, ends, damp);
                    if (speed[at] != now) {
                        speed[at] = now;
                        changed = true;
                    }
                }
            }
            return changed;
        }

        private void goThrough(int some, boolean withPrices) {
            Arrays.fill(least, UNTOLD);
            Arrays.fill(cheapest, UNTOLD);
            Arrays.fill(apart, 0);
            Arrays.fill(price, 0);
            priced = withPrices;
            int unit = 1;
            for (int w = MOST_WICKS - 1; w >= 0; w--) {
                units[w] = unit;
                unit *= w < cloth.count ? 10 : 1;
                // a wick that is not among them is never lit, as if it had no parts
                parts[w] = (some >> w & 1) == 1 ? cloth.parts[w] : 0;
                lit[w] = 0;
            }
            askPrices(0, 0);
            choose(0, 0, 0, 0, 0, 0);
        }

        /** Each way to light ends of the wicks from one on is gone through. */
        private void choose(int depth, int from, int time, int ends, int cost, int first) {
            if (depth >= DEPTHS) {
                return;
            }
            int w = withParts(depth, from);
            if (w >= MOST_WICKS) {
                untilAnyIsOut(depth, time, ends, cost, first);
                return;
            }
            int at = depth * MOST_WICKS + w;
            int unit = depth == 0 ? units[w] : 0;
            int ahead = lit[at];
            int costs = cost;
            for (int l = ahead; l <= usefulEnds(w); l++) {
                lit[at] = l;
                choose(depth, w + 1, time, ends + l - ahead, costs, first + l * unit);
                costs += l < MOST_ENDS ? price[at * MOST_ENDS + l] : 0;
            }
            lit[at] = ahead;
        }

        /** A second end that makes the wick no faster tells nothing more, and is neither fewer nor cheaper. */
        private int usefulEnds(int w) {
            return speed[w * STATES + 2] > speed[w * STATES + 1] ? 2 : 1;
        }

        /** The next wick, from one on, that has parts; MOST_WICKS: none. */
        private int withParts(int depth, int from) {
            for (int w = from; w < MOST_WICKS; w++) {
                if (parts[depth * MOST_WICKS + w] > 0) {
                    return w;
                }
            }
            return MOST_WICKS;
        }

        private void untilAnyIsOut(int depth, int time, int ends, int cost, int first) {
            int moments = momentsToEvent(depth);
            int end = time + moments;
            if (moments <= 0 || end >= PLACES || depth + 1 >= DEPTHS) {
                return;
            }
            least[end] = Math.min(least[end], ends * LEAST_UNIT + first);
            cheapest[end] = Math.min(cheapest[end], cost);
            noteApart(depth, end);
            if (burnDown(depth, moments)) {
                askPrices(depth + 1, end);
                choose(depth + 1, 0, end, ends, cost, first);
            }
        }

        /** 0: none is lit. */
        private int momentsToEvent(int depth) {
            int row = depth * MOST_WICKS;
            int fewest = 0;
            for (int w = 0; w < MOST_WICKS; w++) {
                int fast = lit[row + w] == 0 ? 0 : speed[w * STATES + lit[row + w]];
                if (fast > 0) {
                    int lasts = (parts[row + w] + fast - 1) / fast;
                    fewest = fewest == 0 || lasts < fewest ? lasts : fewest;
                }
            }
            return fewest;
        }

        /** The row behind that of a depth, moments later: whether any parts are left. */
        private boolean burnDown(int depth, int moments) {
            int row = depth * MOST_WICKS;
            boolean any = false;
            for (int w = 0; w < MOST_WICKS; w++) {
                int ends = lit[row + w];
                int left = ends == 0 ? parts[row + w] : parts[row + w] - moments * speed[w * STATES + ends];
                parts[row + MOST_WICKS + w] = left > 0 ? left : 0;
                lit[row + MOST_WICKS + w] = left > 0 ? ends : 0;
                if (left > 0) {
                    any = true;
                }
            }
            return any;
        }

        private void noteApart(int depth, int end) {
            events[depth] = end;
            apart[end] = 1;
            for (int i = 0; i < depth; i++) {
                apart[end - events[i]] = 1;
            }
        }

        private void askPrices(int depth, int time) {
            if (!priced) {
                return;
            }
            for (int w = 0; w < cloth.count && w < MOST_WICKS; w++) {
                int at = depth * MOST_WICKS + w;
                for (int l = lit[at]; l < MOST_ENDS && parts[at] > 0; l++) {
                    int burnt = Math.min(MOST_BURNT, cloth.burnt[w] + cloth.parts[w] - parts[at]);
                    texts.name(parts[at], cloth.damp, l, burnt, w, time);
                    price[at * MOST_ENDS + l] = texts.bounded(cloth.rule, COSTS, MOST_COSTS);
                }
            }
        }
    }

    /** The tape and the texts that were read from it. */
    private static final class Texts {
        private final int[] tape = new int[MOST_TAPE];
        private final int[][] codes = new int[MOST_TEXTS][MOST_TAPE];
        private final int[][] starts = new int[MOST_TEXTS][SECTIONS + 1];
        private final int[] names = new int[Code.NAMES];
        private final int[] stack = new int[MOST_TAPE];
        private final Reader reader = new Reader(tape);
        int size = 0;
        int count = 1;

        Texts() {
            // text 0, as if it had been read: costs 1 ; worth span ; drift 1 ;
            codes[0][COSTS] = 1;
            codes[0][WORTH] = Code.SPAN;
            codes[0][DRIFT] = 1;
            for (int section = 0; section <= SECTIONS; section++) {
                starts[0][section] = section;
            }
        }

        int append(int letter) {
            if (size >= MOST_TAPE) {
                return FULL;
            }
            tape[size] = letter;
            size++;
            return size;
        }

        /** The tape becomes a text: its number, or -100 less the place of its fault. */
        int take() {
            if (count >= MOST_TEXTS) {
                return FULL;
            }
            int fault = reader.read(size, codes[count], starts[count]);
            size = 0;
            if (fault >= 0) {
                return -100 - fault;
            }
            count++;
            return count - 1;
        }

        /** What the names mean in what is asked next. */
        void name(int parts, int damp, int lit, int burnt, int wick, int span) {
            names[0] = parts;
            names[1] = damp;
            names[2] = lit;
            names[3] = burnt;
            names[4] = wick;
            names[5] = span;
        }

        /** What a text says of costs, worth or drift: 0 .. most, else the bound. */
        int bounded(int text, int section, int most) {
            if (text < 0 || text >= count || section < 0 || section >= SECTIONS) {
                return 0;
            }
            int[] code = codes[text];
            int top = 0;
            for (int i = starts[text][section]; i < starts[text][section + 1] && i < MOST_TAPE; i++) {
                top = step(code[i], top);
            }
            return Math.max(0, Math.min(most, stack[0]));
        }

        /** One step of code, so many numbers being on the stack: how many are then. */
        private int step(int code, int top) {
            if (code >= 0 && top >= MOST_TAPE) {
                return top;
            }
            if (code >= 0) {
                int name = code - Code.FIRST_NAME;
                stack[top] = name >= 0 && name < Code.NAMES ? names[name] : code;
                return top + 1;
            }
            boolean alone = code == Code.NOT || code == Code.MINUS;
            int under = alone ? top - 1 : top - 2;
            if (under < 0) {
                return top;
            }
            int a = stack[under];
            int b = stack[top - 1];
            switch (code) {
                case Code.NOT: stack[under] = a == 0 ? 1 : 0; break;
                case Code.MINUS: stack[under] = -a; break;
                case Code.PLUS: stack[under] = a + b; break;
                case Code.LESS_BY: stack[under] = a - b; break;
                case Code.TIMES: stack[under] = a * b; break;
                case Code.BELOW: stack[under] = a < b ? 1 : 0; break;
                case Code.EQUAL: stack[under] = a == b ? 1 : 0; break;
                case Code.AND: stack[under] = a != 0 && b != 0 ? 1 : 0; break;
                default: stack[under] = a != 0 || b != 0 ? 1 : 0; break;
            }
            return under + 1;
        }
    }

    /** The steps of a text that has been read: a number is itself, a name FIRST_NAME and its place. */
    private static final class Code {
        static final int FIRST_NAME = 10000, NAMES = 6, SPAN = FIRST_NAME + 5;
        static final int PLUS = -1, LESS_BY = -2, TIMES = -3, BELOW = -4, EQUAL = -5;
        static final int AND = -6, OR = -7, NOT = -8, MINUS = -9;
    }

    /** Reads a text from the tape, token by token, into code whose operators stand behind what they join. */
    private static final class Reader {
        private static final int MOST_OPEN = 5, MOST_DIGITS = 4;
        // A sign is a token by its own byte; the others are above all bytes.
        private static final int NUMBER = 256, NAME = 257, END = 258, BROKEN = 259;
        private static final int KEY_SECTION = 260, KEY_OR = 263, KEY_AND = 264, KEY_NOT = 265;

        private final int[] tape;
        private int[] code;
        private int size = 0;
        private int used = 0;
        private int at = 0;
        private int next = 0;
        private int token = BROKEN;
        private int value = 0;
        private int fault = NONE;

        Reader(int[] tape) {
            this.tape = tape;
            this.code = new int[0];
        }

        /** The place of the fault, or NONE; then starts tells where each section's code begins and ends. */
        int read(int tapeSize, int[] newCode, int[] starts) {
            code = newCode;
            size = Math.min(tapeSize, tape.length);
            used = 0;
            next = 0;
            fault = NONE;
            advance();
            for (int section = 0; section < SECTIONS && section + 1 < starts.length; section++) {
                expect(KEY_SECTION + section);
                starts[section] = used;
                either(0);
                starts[section + 1] = used;
                expect(';');
            }
            if (token != END) {
                fail();
            }
            return fault;
        }

        private void fail() {
            if (fault == NONE) {
                fault = at;
            }
            token = BROKEN;
        }

        private void emit(int step) {
            if (used < code.length) {
                code[used] = step;
                used++;
            }
        }

        private void expect(int wanted) {
            if (token == wanted) {
                advance();
            } else {
                fail();
            }
        }

        // ---- the grammar; open: how many of ( not - stand open

        private void either(int open) {
            both(open);
            for (int i = 0; i < MOST_TAPE && token == KEY_OR; i++) {
                advance();
                both(open);
                emit(Code.OR);
            }
        }

        private void both(int open) {
            negation(open);
            for (int i = 0; i < MOST_TAPE && token == KEY_AND; i++) {
                advance();
                negation(open);
                emit(Code.AND);
            }
        }

        private void negation(int open) {
            if (token == KEY_NOT) {
                deny(open);
                return;
            }
            sum(open);
            int sign = token;
            if (sign == '<' || sign == '=') {
                advance();
                sum(open);
                emit(sign == '<' ? Code.BELOW : Code.EQUAL);
            }
        }

        private void deny(int open) {
            if (open >= MOST_OPEN) {
                fail();
                return;
            }
            advance();
            negation(open + 1);
            emit(Code.NOT);
        }

        private void sum(int open) {
            term(open);
            for (int i = 0; i < MOST_TAPE && (token == '+' || token == '-'); i++) {
                int step = token == '+' ? Code.PLUS : Code.LESS_BY;
                advance();
                term(open);
                emit(step);
            }
        }

        private void term(int open) {
            one(open);
            for (int i = 0; i < MOST_TAPE && token == '*'; i++) {
                advance();
                one(open);
                emit(Code.TIMES);
            }
        }

        private void one(int open) {
            if (token == NUMBER || token == NAME) {
                emit(token == NUMBER ? value : Code.FIRST_NAME + value);
                advance();
            } else if (open >= MOST_OPEN) {
                fail();
            } else if (token == '-') {
                advance();
                one(open + 1);
                emit(Code.MINUS);
            } else if (token == '(') {
                advance();
                either(open + 1);
                expect(')');
            } else {
                fail();
            }
        }

        // ---- the tokens

        private void advance() {
            if (fault != NONE) {
                return;
            }
            at = behind(next, ' ');
            if (at >= size) {
                token = END;
                return;
            }
            int letter = tape[at];
            if (isLetter(letter)) {
                next = behind(at, 'a');
                takeWord();
            } else if (isDigit(letter)) {
                next = behind(at, '0');
                takeNumber();
            } else if (isSign(letter)) {
                next = at + 1;
                token = letter;
            } else {
                fail();
            }
        }

        /** The first place from a place on whose byte is not of the sort that an example is of. */
        private int behind(int from, int example) {
            for (int i = from; i < size; i++) {
                int letter = tape[i];
                boolean like = example == 'a' ? isLetter(letter)
                        : example == '0' ? isDigit(letter) : letter == 32 || letter == 10;
                if (!like) {
                    return i;
                }
            }
            return size;
        }

        private static boolean isLetter(int letter) {
            return letter >= 'a' && letter <= 'z';
        }

        private static boolean isDigit(int letter) {
            return letter >= '0' && letter <= '9';
        }

        private static boolean isSign(int letter) {
            return letter == '(' || letter == ')' || letter == ';' || letter == '+' || letter == '-'
                    || letter == '*' || letter == '<' || letter == '=';
        }

        private void takeNumber() {
            if (next - at > MOST_DIGITS) {
                fail();
                return;
            }
            value = 0;
            for (int i = at; i < next; i++) {
                value = value * 10 + tape[i] - '0';
            }
            token = NUMBER;
        }

        private void takeWord() {
            value = isWord("parts") ? 0 : isWord("damp") ? 1 : isWord("lit") ? 2 : isWord("burnt") ? 3
                    : isWord("wick") ? 4 : isWord("span") ? 5 : NONE;
            token = value != NONE ? NAME
                    : isWord("costs") ? KEY_SECTION + COSTS : isWord("worth") ? KEY_SECTION + WORTH
                    : isWord("drift") ? KEY_SECTION + DRIFT : isWord("or") ? KEY_OR
                    : isWord("and") ? KEY_AND : isWord("not") ? KEY_NOT : BROKEN;
            if (token == BROKEN) {
                fail();
            }
        }

        private boolean isWord(String word) {
            if (word.length() != next - at) {
                return false;
            }
            for (int i = 0; i < word.length(); i++) {
                if (tape[at + i] != word.charAt(i)) {
                    return false;
                }
            }
            return true;
        }
    }

    /** Rows of numbers of a sort; each row is made once and used again. */
    private static final class Sheets {
        final int[][] rows = new int[SHEETS][MOST_ITEMS];
        final int[] sort = {MISSING, MISSING, MISSING, MISSING};
        final int[] size = new int[SHEETS];

        boolean has(int s) {
            return s >= 0 && s < SHEETS;
        }

        boolean lacks(int s) {
            return !has(s) || sort[s] == MISSING;
        }

        /** Whether n items from i on stand in a sheet that is there; n may be any number. */
        boolean reaches(int s, int i, int n) {
            return !lacks(s) && i >= 0 && n >= 0 && i <= size[s] && n <= size[s] - i;
        }

        void lay(int s, int newSort, int n) {
            if (has(s)) {
                sort[s] = newSort;
                size[s] = newSort == MISSING ? 0 : Math.max(0, Math.min(MOST_ITEMS, n));
                Arrays.fill(rows[s], 0);
            }
        }

        int item(int s, int i) {
            return reaches(s, i, 1) ? rows[s][i] : 0;
        }

        void put(int s, int i, int v) {
            if (reaches(s, i, 1)) {
                rows[s][i] = sort[s] == BYTES ? (byte) v : sort[s] == SHORTS ? (short) v : v;
            }
        }
    }
}
