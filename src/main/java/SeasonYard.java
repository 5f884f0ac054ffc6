import java.util.Arrays;

/** A garden of cells in which seasons lie by the yard; README.md tells how to use it. */
public final class SeasonYard {
    public static final int BAD = -1, STATE = -2, FULL = -3, NONE = -4;

    private static final int SMALLEST = 2, MOST_CELLS = 16, MOST_EDGES = 32;
    private static final int SEASONS = 4, BARE = 4, MOST_YARDS = 9, OWNERS = 3;
    private static final int MOST_RULES = 5, MOST_NEXT = 4;
    private static final int MOST_STOCK = 99, MOST_PRICE = 9, MOST_PURSE = 999;
    private static final int MOST_WEEKS = 60, WEEKS_END = 1000, SHORT_WEEKS = 12;
    private static final int PLAN_WEEKS = 6, LUCK_WEEKS = 8, ODDS = 10, ROW_WEEKS = 5;
    private static final int GIFT_YARDS = 3, DRIFT_YARDS = 2;
    private static final int IMAGES = 2, SHEETS = 4, LANES = 3, MOST_LAYINGS = 13;
    private static final int NULL_FAULT = 1, INDEX_FAULT = 2, CAST_FAULT = 3, SIZE_FAULT = 4;

    private final Garden garden = new Garden();
    /** What would be is tried here, so that no call has to make a garden of its own. */
    private final Garden trial = new Garden();
    private final Garden[] images = new Garden[IMAGES];
    private final Sheet[] sheets = new Sheet[SHEETS];
    private final Tape tape = new Tape();
    private final TextReader reader = new TextReader(tape, trial);
    private final Planner planner = new Planner();
    private final Stubble stubble = new Stubble();
    /** A bit for each image that there is. */
    private int kept;
    private int textFault;
    private int readFault;

    public SeasonYard() {
        for (int k = 0; k < IMAGES; k++) {
            images[k] = new Garden();
        }
        for (int k = 0; k < SHEETS; k++) {
            sheets[k] = new Sheet();
        }
    }

    private static boolean isIn(int v, int low, int high) {
        return v >= low && v <= high;
    }

    private static boolean isSeason(int s) {
        return isIn(s, 0, SEASONS - 1);
    }

    // ---- the text, what there is

    public int feed(int c) {
        if (!isIn(c, 0, 127)) {
            return BAD;
        }
        return tape.add(c) ? tape.length : FULL;
    }

    public int end(int n) {
        int had = tape.length;
        if (!isIn(n, 0, had)) {
            return BAD;
        }
        tape.length = n;
        return had;
    }

    public int text() {
        boolean isTaken = reader.readAll();
        textFault = reader.fault;
        tape.length = 0;
        if (!isTaken) {
            return -10 - reader.place;
        }
        garden.copyFrom(trial);
        stubble.size = 0;
        kept = 0;
        return reader.lines;
    }

    public int fault() {
        return textFault;
    }

    public int rule(int what) {
        switch (what) {
            case 0: return garden.wide;
            case 1: return garden.high;
            case 2: return garden.laws.size;
            case 3: return garden.shop.purse;
            case 4: return garden.weeksGone;
            case 5: return garden.spoiled;
            default: return BAD;
        }
    }

    public int cell(int c, int what) {
        return garden.facet(c, what);
    }

    public int edge(int e) {
        if (!garden.hasEdge(e)) {
            return BAD;
        }
        return garden.isOpen(e) ? 0 : 1;
    }

    public int stock(int s, int what) {
        if (!isSeason(s) || !isIn(what, 0, 1)) {
            return BAD;
        }
        return what == 0 ? garden.shop.yards[s] : garden.shop.prices[s];
    }

    public int law(int k, int what) {
        if (!garden.laws.has(k)) {
            return BAD;
        }
        switch (what) {
            case 0: return garden.laws.a[k];
            case 1: return garden.laws.b[k];
            case 2: return garden.laws.n[k];
            default: return BAD;
        }
    }

    public int ripe(int o) {
        return isIn(o, 0, OWNERS - 1) ? garden.ripeOf[o] : BAD;
    }

    // ---- what is changed

    public int lay(int c, int s, int y) {
        return garden.buyAndSet(c, s, y);
    }

    public int bare(int c) {
        if (!garden.hasCell(c)) {
            return BAD;
        }
        int had = garden.yards[c];
        garden.setBare(c);
        return had;
    }

    public int sow(int c, int k) {
        if (!garden.hasCell(c) || k != NONE && !Crops.isKind(k)) {
            return BAD;
        }
        int had = garden.crop[c];
        garden.setCrop(c, k);
        return had;
    }

    public int own(int c, int o) {
        if (!garden.hasCell(c) || !isIn(o, 0, OWNERS - 1)) {
            return BAD;
        }
        int had = garden.owner[c];
        garden.owner[c] = o;
        return had;
    }

    public int wall(int e, boolean is) {
        if (!garden.hasEdge(e)) {
            return BAD;
        }
        int had = garden.isOpen(e) ? 0 : 1;
        garden.setWall(e, is);
        return had;
    }

    public int store(int s, int y) {
        if (!isSeason(s) || !isIn(y, 0, MOST_STOCK)) {
            return BAD;
        }
        int had = garden.shop.yards[s];
        garden.shop.yards[s] = y;
        return had;
    }

    public int price(int s, int v) {
        if (!isSeason(s) || !isIn(v, 1, MOST_PRICE)) {
            return BAD;
        }
        int had = garden.shop.prices[s];
        garden.shop.prices[s] = v;
        return had;
    }

    public int fund(int v) {
        if (!isIn(v, 0, MOST_PURSE)) {
            return BAD;
        }
        int had = garden.shop.purse;
        garden.shop.purse = v;
        return had;
    }

    public int bite(int k, int v) {
        if (!garden.laws.has(k) || !isIn(v, 1, MOST_NEXT)) {
            return BAD;
        }
        int had = garden.laws.n[k];
        garden.laws.n[k] = v;
        return had;
    }

    // ---- weeks

    public int week(int n) {
        if (!isIn(n, 0, MOST_WEEKS)) {
            return BAD;
        }
        if (garden.weeksGone + n >= WEEKS_END) {
            return FULL;
        }
        int before = garden.ripeOfAll();
        garden.goOn(n);
        return garden.ripeOfAll() - before;
    }

    public int ahead(int c, int n, int what) {
        if (!isIn(n, 0, MOST_WEEKS)) {
            return BAD;
        }
        trial.copyFrom(garden);
        trial.goOn(n);
        return trial.facet(c, what);
    }

    public int spreads() {
        return garden.fittedCells();
    }

    public int comes(int n, int what) {
        if (!isIn(n, 0, MOST_WEEKS) || !isIn(what, 0, 1)) {
            return BAD;
        }
        trial.copyFrom(garden);
        trial.goOn(n);
        return what == 0 ? ripeInTrial() : spoiledInTrial();
    }

    public int when(int c) {
        if (!garden.hasCell(c)) {
            return BAD;
        }
        if (garden.crop[c] == NONE) {
            return STATE;
        }
        trial.copyFrom(garden);
        for (int week = 1; week <= MOST_WEEKS && trial.crop[c] != NONE; week++) {
            trial.goOn(1);
            if ((trial.justRipe >>> c & 1) != 0) {
                return week;
            }
        }
        return NONE;
    }

    public int again() {
        trial.copyFrom(garden);
        for (int week = 1; week <= MOST_WEEKS; week++) {
            trial.goOn(1);
            if (trial.liesAs(garden)) {
                return week;
            }
        }
        return NONE;
    }

    private int ripeInTrial() {
        return trial.ripeOfAll() - garden.ripeOfAll();
    }

    private int spoiledInTrial() {
        return trial.spoiled - garden.spoiled;
    }

    // ---- the best

    public int plan(int c, int n, int what) {
        if (!garden.hasCell(c) || !isIn(n, 1, PLAN_WEEKS) || what != 0 && !isIn(what, 10, 9 + n)) {
            return BAD;
        }
        if (garden.crop[c] == NONE) {
            return STATE;
        }
        planner.weigh(garden, c, n);
        if (planner.costs >= Planner.NEVER) {
            return NONE;
        }
        return what == 0 ? planner.costs : planner.laidAheadOf(what - 10);
    }

    public int most(int n, int what) {
        if (!isIn(n, 1, SHORT_WEEKS) || !isIn(what, 0, 1)) {
            return BAD;
        }
        int best = -1;
        int laying = 0;
        for (int c = 0; c < garden.cells(); c++) {
            for (int s = 0; s < SEASONS; s++) {
                trial.copyFrom(garden);
                trial.set(c, s, GIFT_YARDS);
                trial.goOn(n);
                if (ripeInTrial() > best) {
                    best = ripeInTrial();
                    laying = 10 * c + s;
                }
            }
        }
        return what == 0 ? laying : best;
    }

    public int fence(int n, int what) {
        if (!isIn(n, 1, SHORT_WEEKS) || !isIn(what, 0, 1)) {
            return BAD;
        }
        trial.copyFrom(garden);
        trial.goOn(n);
        int fewest = spoiledInTrial();
        int best = NONE;
        for (int e = 0; e < MOST_EDGES; e++) {
            if (garden.hasEdge(e) && garden.isOpen(e)) {
                trial.copyFrom(garden);
                trial.setWall(e, true);
                trial.goOn(n);
                if (spoiledInTrial() < fewest) {
                    fewest = spoiledInTrial();
                    best = e;
                }
            }
        }
        return best == NONE || what == 0 ? best : fewest;
    }

    public int blame(int c, int n) {
        if (!garden.hasCell(c) || !isIn(n, 1, SHORT_WEEKS)) {
            return BAD;
        }
        if (garden.crop[c] == NONE) {
            return STATE;
        }
        trial.copyFrom(garden);
        trial.goOn(n);
        int crop = trial.crop[c];
        int stage = trial.stage[c];
        int blamed = 0;
        for (int other = 0; other < garden.cells(); other++) {
            // A cell that is bare already changes nothing by becoming bare.
            if (other != c && garden.season[other] != BARE) {
                trial.copyFrom(garden);
                trial.setBare(other);
                trial.goOn(n);
                if (trial.crop[c] != crop || trial.stage[c] != stage) {
                    blamed |= 1 << other;
                }
            }
        }
        return blamed;
    }

    // ---- luck

    public long luck(int c, int v, int n, int what) {
        if (!garden.hasCell(c) || !isIn(v, 0, ODDS) || !isIn(n, 1, LUCK_WEEKS) || !isIn(what, 0, 1)) {
            return BAD;
        }
        int crop = garden.crop[c];
        if (crop == NONE) {
            return STATE;
        }
        long all = Luck.allWays(n);
        long good = Luck.goodWays(crop, garden.stage[c], garden.season[c], garden.yards[c], v, n);
        long common = Luck.commonDivisor(good, all);
        if (common < 1) {
            return what;
        }
        return what == 0 ? good / common : all / common;
    }

    // ---- stubble

    public int see(int week, int stage) {
        if (!isIn(week, 0, ROW_WEEKS - 1) || !isIn(stage, 0, Crops.SPOILED)) {
            return BAD;
        }
        return stubble.add(week, stage) ? stubble.size : FULL;
    }

    public int forget(int n) {
        int had = stubble.size;
        if (!isIn(n, 0, had)) {
            return BAD;
        }
        stubble.size = n;
        return had;
    }

    public int rows(int k, int w, int what) {
        if (!Crops.isKind(k) || !isIn(w, 1, ROW_WEEKS) || !isIn(what, 0, 1)) {
            return BAD;
        }
        return what == 0 ? stubble.fitting(k, w) : stubble.firstFitting(k, w);
    }

    public int sure(int k, int w, int week) {
        if (!Crops.isKind(k) || !isIn(w, 1, ROW_WEEKS) || !isIn(week, 0, w - 1)) {
            return BAD;
        }
        return stubble.onlyOne(k, w, week);
    }

    public int sown(int w) {
        if (!isIn(w, 1, ROW_WEEKS)) {
            return BAD;
        }
        int able = 0;
        for (int k = 0; k < Crops.KINDS; k++) {
            if (stubble.fitting(k, w) > 0) {
                able |= 1 << k;
            }
        }
        return able;
    }

    // ---- by a seed

    public int drift(int seed, int n, int what) {
        if (!isIn(n, 1, MOST_WEEKS) || !isIn(what, 0, 1)) {
            return BAD;
        }
        trial.copyFrom(garden);
        int cells = trial.cells();
        int now = seed;
        for (int i = 0; i < n && cells > 0; i++) {
            now = nextSeed(now);
            int c = bitsOf(now) % cells;
            now = nextSeed(now);
            trial.set(c, bitsOf(now) % SEASONS, DRIFT_YARDS);
            trial.goOn(1);
        }
        return what == 0 ? ripeInTrial() : spoiledInTrial();
    }

    private static int nextSeed(int seed) {
        return seed * 1103515245 + 12345;
    }

    private static int bitsOf(int seed) {
        return seed >>> 16 & 32767;
    }

    // ---- images, sheets

    public int keep(int k) {
        if (!isIn(k, 0, IMAGES - 1)) {
            return BAD;
        }
        int was = kept >>> k & 1;
        images[k].copyFrom(garden);
        kept |= 1 << k;
        return was;
    }

    public int back(int k) {
        if (!isIn(k, 0, IMAGES - 1)) {
            return BAD;
        }
        if ((kept >>> k & 1) == 0) {
            return STATE;
        }
        garden.copyFrom(images[k]);
        return garden.weeksGone;
    }

    public int sheet(int k, int lane, int n) {
        if (!isIn(k, 0, SHEETS - 1) || !isIn(lane, 0, LANES - 1) || n > Sheet.MOST) {
            return BAD;
        }
        if (n < 0) {
            return -10 - SIZE_FAULT;
        }
        sheets[k].begin(lane, n);
        return 1;
    }

    public int put(int k, int i, int v) {
        if (!isIn(k, 0, SHEETS - 1)) {
            return BAD;
        }
        Sheet sheet = sheets[k];
        if (!sheet.isThere()) {
            return -10 - NULL_FAULT;
        }
        if (!isIn(i, 0, sheet.size - 1)) {
            return -10 - INDEX_FAULT;
        }
        sheet.values[i] = sheet.lowestBits(v);
        return 1;
    }

    public int read(int k, int lane, int f, int n) {
        if (!isIn(k, 0, SHEETS - 1) || !isIn(lane, 0, LANES - 1) || !isIn(n, 0, MOST_LAYINGS)) {
            return BAD;
        }
        Sheet sheet = sheets[k];
        int found = n == 0 ? 0 : sheet.faultAs(lane);
        int came = 0;
        // The layings come in the trial first, as one that is refused takes all back.
        trial.copyFrom(garden);
        for (int i = 0; i < n && found == 0; i++) {
            int at = f + 3 * i;
            if (!sheet.hasThree(at)) {
                found = INDEX_FAULT;
            } else if (trial.buyAndSet(sheet.values[at], sheet.values[at + 1], sheet.values[at + 2]) < 0) {
                return -20 - i;
            } else {
                came++;
            }
        }
        garden.copyFrom(trial);
        readFault = found;
        return came;
    }

    public int torn() {
        return readFault;
    }

    public int count(int what) {
        switch (what) {
            case 0: return stubble.size;
            case 1: return Integer.bitCount(kept);
            case 2: return tape.length;
            case 3: return sheets[0].isThere() ? sheets[0].size : NONE;
            case 4: return garden.bareCells();
            case 5: return garden.cropsSown();
            case 6: return garden.yardsInAll();
            case 7: return Integer.bitCount(garden.walls);
            default: return BAD;
        }
    }

    /** What the crops want, and what a week makes of one. */
    private static final class Crops {
        static final int KINDS = 5, STAGES = 3;
        /** What comes behind the stages; the numbers are those that see() is told. */
        static final int RIPE = 3, SPOILED = 4;
        private static final int NO_MORE = -1;
        private static final int[] WANTED = {1, 2, 3, 3, 0, 1, 0, 0, 0, 2, 2, NO_MORE, 1, 2, NO_MORE};

        static boolean isKind(int k) {
            return isIn(k, 0, KINDS - 1);
        }

        private static int wanted(int k, int stage) {
            int at = STAGES * k + stage;
            return isIn(stage, 0, STAGES - 1) && isIn(at, 0, WANTED.length - 1) ? WANTED[at] : NO_MORE;
        }

        /** The stage behind a week in which a season lies, or RIPE, SPOILED. */
        static int behind(int k, int stage, int season) {
            if (season == wanted(k, stage)) {
                return wanted(k, stage + 1) == NO_MORE ? RIPE : stage + 1;
            }
            return stage == 0 || season == wanted(k, stage - 1) ? stage : SPOILED;
        }
    }

    /** The rules, by order. */
    private static final class Laws {
        final int[] a = new int[MOST_RULES];
        final int[] b = new int[MOST_RULES];
        final int[] n = new int[MOST_RULES];
        int size;

        boolean has(int k) {
            return k >= 0 && k < size && k < MOST_RULES;
        }

        void add(int from, int over, int least) {
            if (size < MOST_RULES) {
                a[size] = from;
                b[size] = over;
                n[size] = least;
                size++;
            }
        }

        void copyFrom(Laws other) {
            System.arraycopy(other.a, 0, a, 0, MOST_RULES);
            System.arraycopy(other.b, 0, b, 0, MOST_RULES);
            System.arraycopy(other.n, 0, n, 0, MOST_RULES);
            size = other.size;
        }
    }

    /** The stock of yards, their prices, the purse. */
    private static final class Shop {
        final int[] yards = new int[SEASONS];
        final int[] prices = new int[SEASONS];
        int purse;

        void clear() {
            Arrays.fill(yards, 0);
            Arrays.fill(prices, 1);
            purse = 0;
        }

        void offer(int s, int y, int price) {
            if (isSeason(s)) {
                yards[s] = y;
                prices[s] = price;
            }
        }

        boolean sells(int s, int y) {
            return isSeason(s) && yards[s] >= y && purse >= prices[s] * y;
        }

        void take(int s, int y) {
            if (isSeason(s)) {
                yards[s] -= y;
                purse -= prices[s] * y;
            }
        }

        void copyFrom(Shop other) {
            System.arraycopy(other.yards, 0, yards, 0, SEASONS);
            System.arraycopy(other.prices, 0, prices, 0, SEASONS);
            purse = other.purse;
        }
    }

    /** All that an image holds: cells, walls, rules, stock, purse, and the weeks that go over them. */
    private static final class Garden {
        int wide;
        int high;
        final int[] season = new int[MOST_CELLS];
        final int[] yards = new int[MOST_CELLS];
        final int[] crop = new int[MOST_CELLS];
        final int[] stage = new int[MOST_CELLS];
        final int[] owner = new int[MOST_CELLS];
        /** A bit for each edge on which there is a wall. */
        int walls;
        final Laws laws = new Laws();
        final Shop shop = new Shop();
        int weeksGone;
        final int[] ripeOf = new int[OWNERS];
        int spoiled;
        /** A bit for each cell whose crop became ripe in the latest week. */
        int justRipe;
        /** The bits of the cells in which each season lies, and of those that are bare. */
        private final int[] places = new int[SEASONS + 1];
        /** The law that fits each cell, NONE where none does: noted for all before one cell changes. */
        private final int[] fitting = new int[MOST_CELLS];

        Garden() {
            clear();
        }

        void clear() {
            wide = SMALLEST;
            high = SMALLEST;
            Arrays.fill(season, BARE);
            Arrays.fill(yards, 0);
            Arrays.fill(crop, NONE);
            Arrays.fill(stage, 0);
            Arrays.fill(owner, 0);
            walls = 0;
            laws.size = 0;
            shop.clear();
            weeksGone = 0;
            Arrays.fill(ripeOf, 0);
            spoiled = 0;
            justRipe = 0;
        }

        void copyFrom(Garden other) {
            wide = other.wide;
            high = other.high;
            System.arraycopy(other.season, 0, season, 0, MOST_CELLS);
            System.arraycopy(other.yards, 0, yards, 0, MOST_CELLS);
            System.arraycopy(other.crop, 0, crop, 0, MOST_CELLS);
            System.arraycopy(other.stage, 0, stage, 0, MOST_CELLS);
            System.arraycopy(other.owner, 0, owner, 0, MOST_CELLS);
            walls = other.walls;
            laws.copyFrom(other.laws);
            shop.copyFrom(other.shop);
            weeksGone = other.weeksGone;
            System.arraycopy(other.ripeOf, 0, ripeOf, 0, OWNERS);
            spoiled = other.spoiled;
            justRipe = other.justRipe;
        }

        int cells() {
            int all = wide * high;
            return all < MOST_CELLS ? all : MOST_CELLS;
        }

        boolean hasCell(int c) {
            return c >= 0 && c < cells();
        }

        /** Whether a cell has another one to the east. */
        private boolean hasEast(int c) {
            return wide > 0 && c % wide < wide - 1;
        }

        boolean hasEdge(int e) {
            int c = e >> 1;
            if (!hasCell(c)) {
                return false;
            }
            return (e & 1) == 0 ? hasEast(c) : hasCell(c + wide);
        }

        boolean isOpen(int e) {
            return (walls >>> e & 1) == 0;
        }

        void setWall(int e, boolean is) {
            walls = is ? walls | 1 << e : walls & ~(1 << e);
        }

        /** What cell() tells of a cell. */
        int facet(int c, int what) {
            if (!hasCell(c)) {
                return BAD;
            }
            switch (what) {
                case 0: return season[c];
                case 1: return yards[c];
                case 2: return crop[c];
                case 3: return stage[c];
                case 4: return owner[c];
                default: return BAD;
            }
        }

        void set(int c, int s, int y) {
            if (isIn(c, 0, MOST_CELLS - 1)) {
                season[c] = s;
                yards[c] = y;
            }
        }

        void setBare(int c) {
            set(c, BARE, 0);
        }

        void setCrop(int c, int k) {
            if (isIn(c, 0, MOST_CELLS - 1)) {
                crop[c] = k;
                stage[c] = 0;
            }
        }

        void setOwner(int c, int o) {
            if (isIn(c, 0, MOST_CELLS - 1)) {
                owner[c] = o;
            }
        }

        /** What lay() does and answers. */
        int buyAndSet(int c, int s, int y) {
            if (!hasCell(c) || !isSeason(s) || !isIn(y, 1, MOST_YARDS)) {
                return BAD;
            }
            if (!shop.sells(s, y)) {
                return STATE;
            }
            shop.take(s, y);
            set(c, s, y);
            return shop.purse;
        }

        void goOn(int weeks) {
            for (int i = 0; i < weeks; i++) {
                spread();
                growCrops();
                loseYards();
                weeksGone++;
            }
        }

        private void spread() {
            if (laws.size == 0) {
                return;
            }
            notePlaces();
            for (int c = 0; c < cells(); c++) {
                fitting[c] = firstFitting(c);
            }
            for (int c = 0; c < cells(); c++) {
                if (laws.has(fitting[c])) {
                    season[c] = laws.a[fitting[c]];
                    yards[c] = Math.max(yards[c], 1);
                }
            }
        }

        private void notePlaces() {
            Arrays.fill(places, 0);
            for (int c = 0; c < cells(); c++) {
                if (isIn(season[c], 0, BARE)) {
                    places[season[c]] |= 1 << c;
                }
            }
        }

        /** The first law that fits a cell by the places noted, or NONE. */
        private int firstFitting(int c) {
            for (int k = 0; k < laws.size && k < MOST_RULES; k++) {
                if (fits(k, c)) {
                    return k;
                }
            }
            return NONE;
        }

        private boolean fits(int k, int c) {
            int from = laws.a[k];
            int over = laws.b[k];
            return isSeason(from) && isIn(over, 0, BARE) && (places[over] >>> c & 1) != 0
                    && Integer.bitCount(places[from] & nextTo(c)) >= laws.n[k];
        }

        /** A bit for each cell that is next to one without a wall between. */
        private int nextTo(int c) {
            int near = 0;
            if (hasEast(c) && isOpen(2 * c)) {
                near |= 1 << (c + 1);
            }
            if (c > 0 && hasEast(c - 1) && isOpen(2 * c - 2)) {
                near |= 1 << (c - 1);
            }
            if (hasCell(c + wide) && isOpen(2 * c + 1)) {
                near |= 1 << (c + wide);
            }
            if (hasCell(c - wide) && isOpen(2 * (c - wide) + 1)) {
                near |= 1 << (c - wide);
            }
            return near;
        }

        int fittedCells() {
            notePlaces();
            int fitted = 0;
            for (int c = 0; c < cells(); c++) {
                if (firstFitting(c) != NONE) {
                    fitted |= 1 << c;
                }
            }
            return fitted;
        }

        private void growCrops() {
            justRipe = 0;
            for (int c = 0; c < cells(); c++) {
                if (crop[c] != NONE) {
                    growCrop(c);
                }
            }
        }

        private void growCrop(int c) {
            int then = Crops.behind(crop[c], stage[c], season[c]);
            if (then == Crops.RIPE) {
                if (isIn(owner[c], 0, OWNERS - 1)) {
                    ripeOf[owner[c]]++;
                }
                justRipe |= 1 << c;
                setCrop(c, NONE);
            } else if (then == Crops.SPOILED) {
                spoiled++;
                setCrop(c, NONE);
            } else {
                stage[c] = then;
            }
        }

        private void loseYards() {
            for (int c = 0; c < cells(); c++) {
                if (yards[c] > 1) {
                    yards[c]--;
                } else {
                    setBare(c);
                }
            }
        }

        boolean liesAs(Garden other) {
            for (int c = 0; c < cells(); c++) {
                if (season[c] != other.season[c] || yards[c] != other.yards[c]) {
                    return false;
                }
            }
            return true;
        }

        int ripeOfAll() {
            int all = 0;
            for (int o = 0; o < OWNERS; o++) {
                all += ripeOf[o];
            }
            return all;
        }

        int bareCells() {
            int all = 0;
            for (int c = 0; c < cells(); c++) {
                all += season[c] == BARE ? 1 : 0;
            }
            return all;
        }

        int cropsSown() {
            int all = 0;
            for (int c = 0; c < cells(); c++) {
                all += crop[c] == NONE ? 0 : 1;
            }
            return all;
        }

        int yardsInAll() {
            int all = 0;
            for (int c = 0; c < cells(); c++) {
                all += yards[c];
            }
            return all;
        }
    }

    /** The bytes of the text. */
    private static final class Tape {
        static final int MOST = 160;
        private final byte[] bytes = new byte[MOST];
        int length;

        boolean add(int c) {
            if (length >= MOST) {
                return false;
            }
            bytes[length] = (byte) c;
            length++;
            return true;
        }

        /** The byte at a place, or NONE behind the last. */
        int at(int place) {
            return place >= 0 && place < length && place < MOST ? bytes[place] : NONE;
        }
    }

    /** One token of the tape after the other. */
    private static final class Tokens {
        static final int END = 0, NAME = 1, NUMBER = 2, SEMICOLON = 3, WRONG = 4;
        private final Tape tape;
        int kind;
        int from;
        int value;
        private int to;

        Tokens(Tape tape) {
            this.tape = tape;
        }

        void begin() {
            to = 0;
        }

        void move() {
            from = behindAll(' ', ' ', to);
            to = from + 1;
            int c = tape.at(from);
            if (from >= tape.length) {
                kind = END;
                to = from;
            } else if (c == ';') {
                kind = SEMICOLON;
            } else if (isIn(c, 'a', 'z')) {
                kind = NAME;
                to = behindAll('a', 'z', from);
            } else if (isIn(c, '0', '9')) {
                to = behindAll('0', '9', from);
                kind = to - from > 2 ? WRONG : NUMBER;
                value = kind == NUMBER ? numberHere() : 0;
            } else {
                kind = WRONG;
            }
        }

        private int numberHere() {
            int number = 0;
            for (int i = from; i < to; i++) {
                number = 10 * number + tape.at(i) - '0';
            }
            return number;
        }

        /** The first place from one on whose byte is not between two. */
        private int behindAll(int low, int high, int first) {
            int i = first;
            while (i < tape.length && isIn(tape.at(i), low, high)) {
                i++;
            }
            return i;
        }

        boolean isName(String name) {
            if (kind != NAME || to - from != name.length()) {
                return false;
            }
            for (int i = 0; i < name.length(); i++) {
                if (tape.at(from + i) != name.charAt(i)) {
                    return false;
                }
            }
            return true;
        }
    }

    /** Reads the text of a tape into a garden, up to the first fault. */
    private static final class TextReader {
        private static final int SIZE = 0, LAY = 1, SOW = 2, OWN = 3, WALL = 4, RULE = 5, STOCK = 6, PURSE = 7;
        private static final int LINES = 8, MOST_FIELDS = 3;
        private static final int NO_TOKEN = 1, OUT_OF_PLACE = 2, OUT_OF_BOUNDS = 3, TWICE = 4, TOO_MANY = 5;
        private static final int NO_CELL = 6, NO_EDGE = 7;
        private static final int[] FIELDS = {2, 3, 2, 2, 1, 3, 3, 1};
        private static final int[] LOW = {2, 2, 0, 0, 0, 1, 0, 0, 0, 0, 0, 0, 0, 0, 0, 0, 0, 1, 0, 0, 1, 0, 0, 0};
        private static final int[] HIGH = {4, 4, 0, 15, 3, 9, 15, 4, 0, 15, 2, 0, 31, 0, 0, 3, 4, 4, 3, 99, 9, 99, 0, 0};

        private final Tape tape;
        private final Tokens tokens;
        private final Garden into;
        /** For each line that may not tell the same twice a bit for each cell, edge, season told (size, purse: 0). */
        private final int[] told = new int[LINES];
        private final int[] fields = new int[MOST_FIELDS];
        int lines;
        int fault;
        int place;

        TextReader(Tape tape, Garden into) {
            this.tape = tape;
            this.into = into;
            tokens = new Tokens(tape);
        }

        /** Whether the whole text came without a fault. */
        boolean readAll() {
            into.clear();
            tokens.begin();
            Arrays.fill(told, 0);
            lines = 0;
            fault = 0;
            place = 0;
            boolean isGoing = true;
            // Each line takes a byte of the tape at least.
            for (int i = 0; i <= Tape.MOST && isGoing; i++) {
                isGoing = readLine();
            }
            if (fault == 0) {
                checkAll();
            }
            return fault == 0;
        }

        private void fail(int number, int at) {
            fault = number;
            place = at;
        }

        /** Whether a line came, without a fault. */
        private boolean readLine() {
            tokens.move();
            if (tokens.kind == Tokens.END) {
                return false;
            }
            int line = lineNamed();
            int wrong = nameFault(line);
            if (wrong != 0) {
                fail(wrong, tokens.from);
                return false;
            }
            for (int i = 0; i < FIELDS[line] && fault == 0; i++) {
                readField(line, i);
            }
            if (fault == 0) {
                readSemicolon();
            }
            if (fault == 0) {
                take(line);
                lines++;
            }
            return fault == 0;
        }

        private int lineNamed() {
            for (int line = 0; line < LINES; line++) {
                if (tokens.isName(lineName(line))) {
                    return line;
                }
            }
            return NONE;
        }

        private static String lineName(int line) {
            switch (line) {
                case SIZE: return "size";
                case LAY: return "lay";
                case SOW: return "sow";
                case OWN: return "own";
                case WALL: return "wall";
                case RULE: return "rule";
                case STOCK: return "stock";
                default: return "purse";
            }
        }

        private int cropNamed() {
            for (int k = 0; k < Crops.KINDS; k++) {
                if (tokens.isName(cropName(k))) {
                    return k;
                }
            }
            return NONE;
        }

        private static String cropName(int k) {
            switch (k) {
                case 0: return "wheat";
                case 1: return "rye";
                case 2: return "moss";
                case 3: return "rose";
                default: return "bean";
            }
        }

        private int nameFault(int line) {
            if (tokens.kind == Tokens.WRONG) {
                return NO_TOKEN;
            }
            if (!isIn(line, 0, LINES - 1)) {
                return OUT_OF_PLACE;
            }
            if ((line == SIZE || line == PURSE) && isTold(line, 0)) {
                return TWICE;
            }
            return line == RULE && into.laws.size >= MOST_RULES ? TOO_MANY : 0;
        }

        private boolean isTold(int line, int key) {
            return isIn(line, 0, LINES - 1) && (told[line] >>> key & 1) != 0;
        }

        private void readField(int line, int i) {
            tokens.move();
            int v = NONE;
            if (line == SOW && i == 1) {
                v = cropNamed();
            } else if (tokens.kind == Tokens.NUMBER) {
                v = tokens.value;
            }
            int wrong = fieldFault(line, i, v);
            if (wrong != 0) {
                fail(wrong, tokens.from);
            } else if (isIn(i, 0, MOST_FIELDS - 1)) {
                fields[i] = v;
            }
        }

        private int fieldFault(int line, int i, int v) {
            if (tokens.kind == Tokens.WRONG) {
                return NO_TOKEN;
            }
            int bounds = MOST_FIELDS * line + i;
            if (v == NONE || !isIn(bounds, 0, HIGH.length - 1) || bounds >= LOW.length) {
                return OUT_OF_PLACE;
            }
            if (!isIn(v, LOW[bounds], HIGH[bounds])) {
                return OUT_OF_BOUNDS;
            }
            boolean isKey = i == 0 && line != SIZE && line != PURSE && line != RULE;
            boolean isOverItself = line == RULE && i == 1 && v == fields[0];
            return isKey && isTold(line, v) || isOverItself ? TWICE : 0;
        }

        private void readSemicolon() {
            tokens.move();
            if (tokens.kind == Tokens.WRONG) {
                fail(NO_TOKEN, tokens.from);
            } else if (tokens.kind != Tokens.SEMICOLON) {
                fail(OUT_OF_PLACE, tokens.from);
            }
        }

        private void take(int line) {
            int key = line == SIZE || line == PURSE || line == RULE ? 0 : fields[0];
            if (isIn(line, 0, LINES - 1)) {
                told[line] |= 1 << key;
            }
            switch (line) {
                case SIZE:
                    into.wide = fields[0];
                    into.high = fields[1];
                    break;
                case LAY:
                    into.set(key, fields[1], fields[2]);
                    break;
                case SOW:
                    into.setCrop(key, fields[1]);
                    break;
                case OWN:
                    into.setOwner(key, fields[1]);
                    break;
                case WALL:
                    into.setWall(key, true);
                    break;
                case RULE:
                    into.laws.add(fields[0], fields[1], fields[2]);
                    break;
                case STOCK:
                    into.shop.offer(key, fields[1], fields[2]);
                    break;
                default:
                    into.shop.purse = fields[0];
                    break;
            }
        }

        /** What only the whole text shows, as the size may be told last. */
        private void checkAll() {
            if ((told[LAY] | told[SOW] | told[OWN]) >>> into.cells() != 0) {
                fail(NO_CELL, tape.length);
                return;
            }
            for (int e = 0; e < MOST_EDGES; e++) {
                if (isTold(WALL, e) && !into.hasEdge(e)) {
                    fail(NO_EDGE, tape.length);
                }
            }
        }
    }

    /** The cheapest layings by which the crop of a cell by itself is ripe. */
    private static final class Planner {
        static final int NEVER = 1000000;
        /** What lies in a cell by one number: 0 nothing, else 1 more than 9 times the season and yards less 1. */
        private static final int LYINGS = 1 + SEASONS * MOST_YARDS;
        private static final int STATES = LYINGS * Crops.STAGES;

        /** The least costs from ahead of a week on, by week, what lies, stage. */
        private final int[] least = new int[(PLAN_WEEKS + 1) * STATES];
        private final int[] prices = new int[SEASONS];
        private int crop;
        private int firstLying;
        private int firstStage;
        int costs;

        void weigh(Garden garden, int c, int n) {
            System.arraycopy(garden.shop.prices, 0, prices, 0, SEASONS);
            crop = garden.crop[c];
            firstStage = garden.stage[c];
            firstLying = garden.season[c] == BARE ? 0 : lyingOf(garden.season[c], garden.yards[c]);
            Arrays.fill(least, NEVER);
            for (int week = n - 1; week >= 0; week--) {
                for (int stage = 0; stage < Crops.STAGES; stage++) {
                    weighStage(week, stage);
                }
            }
            costs = leastAt(0, firstLying, firstStage);
        }

        private void weighStage(int week, int stage) {
            int laid = NEVER;
            for (int lying = 1; lying < LYINGS; lying++) {
                laid = Math.min(laid, costOf(lying) + leastBehind(week, lying, stage));
            }
            for (int lying = 0; lying < LYINGS; lying++) {
                int at = placeOf(week, lying, stage);
                if (isIn(at, 0, least.length - 1)) {
                    least[at] = Math.min(laid, leastBehind(week, lying, stage));
                }
            }
        }

        private static int lyingOf(int s, int y) {
            return MOST_YARDS * s + y;
        }

        private static int seasonOf(int lying) {
            return lying == 0 ? BARE : (lying - 1) / MOST_YARDS;
        }

        private static int yardsOf(int lying) {
            return lying == 0 ? 0 : (lying - 1) % MOST_YARDS + 1;
        }

        private int costOf(int lying) {
            int s = seasonOf(lying);
            return isSeason(s) ? prices[s] * yardsOf(lying) : 0;
        }

        private static int placeOf(int week, int lying, int stage) {
            return week * STATES + lying * Crops.STAGES + stage;
        }

        private int leastAt(int week, int lying, int stage) {
            int at = placeOf(week, lying, stage);
            return isIn(at, 0, least.length - 1) ? least[at] : NEVER;
        }

        /** The least costs behind a week in which that lies. */
        private int leastBehind(int week, int lying, int stage) {
            int then = Crops.behind(crop, stage, seasonOf(lying));
            if (then == Crops.RIPE) {
                return 0;
            }
            return then == Crops.SPOILED ? NEVER : leastAt(week + 1, lessOne(lying), then);
        }

        /** What lies behind a week in which that lay. */
        private static int lessOne(int lying) {
            return yardsOf(lying) > 1 ? lying - 1 : 0;
        }

        /** What is laid ahead of a week in the plan weighed. */
        int laidAheadOf(int week) {
            int lying = firstLying;
            int stage = firstStage;
            for (int i = 0; i <= week && stage < Crops.STAGES; i++) {
                int laid = bestAt(i, lying, stage);
                if (i == week) {
                    return laid == 0 ? 0 : 10 * (seasonOf(laid) + 1) + yardsOf(laid);
                }
                lying = laid == 0 ? lying : laid;
                stage = Crops.behind(crop, stage, seasonOf(lying));
                lying = lessOne(lying);
            }
            return 0;
        }

        /** The first lying by number whose laying costs least, 0 if nothing is laid. */
        private int bestAt(int week, int lying, int stage) {
            int cheapest = leastAt(week, lying, stage);
            if (leastBehind(week, lying, stage) == cheapest) {
                return 0;
            }
            for (int laid = 1; laid < LYINGS; laid++) {
                if (costOf(laid) + leastBehind(week, laid, stage) == cheapest) {
                    return laid;
                }
            }
            return 0;
        }
    }

    /** Ways out of all ways by which yards are lost in a cell by itself. */
    private static final class Luck {
        static long allWays(int weeks) {
            long all = 1;
            for (int i = 0; i < weeks; i++) {
                all *= ODDS;
            }
            return all;
        }

        /** Calls itself at most LUCK_WEEKS deep, as the weeks become fewer. */
        private static long goodWays(int crop, int stage, int season, int yards, int odds, int weeks) {
            if (weeks <= 0 || weeks > LUCK_WEEKS) {
                return 0;
            }
            int then = Crops.behind(crop, stage, season);
            if (then == Crops.RIPE) {
                return allWays(weeks);
            }
            if (then == Crops.SPOILED) {
                return 0;
            }
            long lucky = goodWays(crop, then, yards > 1 ? season : BARE, yards - 1, odds, weeks - 1);
            long unlucky = goodWays(crop, then, yards > 2 ? season : BARE, yards - 2, odds, weeks - 1);
            return (ODDS - odds) * lucky + odds * unlucky;
        }

        static long commonDivisor(long a, long b) {
            long more = a;
            long less = b;
            // The smaller one halves at least in every second step, so 200 are more than any long needs.
            for (int i = 0; i < 200 && less != 0; i++) {
                long rest = more % less;
                more = less;
                less = rest;
            }
            return more;
        }
    }

    /** What was seen of a crop, and the rows of what lay that fit. */
    private static final class Stubble {
        private static final int MOST = 6, ANY = -1, ENDS = Crops.SPOILED + 1;
        private final int[] weeks = new int[MOST];
        private final int[] stages = new int[MOST];
        int size;
        /** What a row is told to have in each week, or ANY. */
        private final int[] row = new int[ROW_WEEKS];
        /** How many rows come to each stage or end. */
        private final int[] ways = new int[ENDS];
        private final int[] waysThen = new int[ENDS];

        boolean add(int week, int stage) {
            if (size >= MOST) {
                return false;
            }
            weeks[size] = week;
            stages[size] = stage;
            size++;
            return true;
        }

        private boolean isAsSeen(int week, int stage) {
            for (int i = 0; i < size && i < MOST; i++) {
                if (weeks[i] == week && stages[i] != stage) {
                    return false;
                }
            }
            return true;
        }

        int fitting(int k, int w) {
            Arrays.fill(row, ANY);
            return fittingRow(k, w);
        }

        /** How many rows fit that have what is told of them. */
        private int fittingRow(int k, int w) {
            Arrays.fill(ways, 0);
            ways[0] = 1;
            for (int week = 0; week < w; week++) {
                Arrays.fill(waysThen, 0);
                for (int stage = 0; stage < ENDS; stage++) {
                    goFrom(k, week, stage);
                }
                System.arraycopy(waysThen, 0, ways, 0, ENDS);
            }
            int all = 0;
            for (int stage = 0; stage < ENDS; stage++) {
                all += ways[stage];
            }
            return all;
        }

        private void goFrom(int k, int week, int stage) {
            for (int lies = 0; lies <= BARE; lies++) {
                int then = stage < Crops.STAGES ? Crops.behind(k, stage, lies) : stage;
                boolean isToldSo = row[week] == ANY || row[week] == lies;
                if (isToldSo && isIn(then, 0, ENDS - 1) && isAsSeen(week, then)) {
                    waysThen[then] += ways[stage];
                }
            }
        }

        /** The first row that fits as a number to the base 5, or NONE. */
        int firstFitting(int k, int w) {
            if (fitting(k, w) == 0) {
                return NONE;
            }
            int number = 0;
            for (int week = 0; week < w; week++) {
                row[week] = 0;
                while (row[week] < BARE && fittingRow(k, w) == 0) {
                    row[week]++;
                }
                number = (BARE + 1) * number + row[week];
            }
            return number;
        }

        /** What lay in a week by all rows that fit, or NONE. */
        int onlyOne(int k, int w, int week) {
            int all = fitting(k, w);
            for (int lies = 0; lies <= BARE && all > 0; lies++) {
                row[week] = lies;
                if (fittingRow(k, w) == all) {
                    return lies;
                }
            }
            return NONE;
        }
    }

    /** A row of bytes, shorts or ints, or nothing. */
    private static final class Sheet {
        static final int MOST = 40;
        private static final int BYTES = 0, SHORTS = 1;
        final int[] values = new int[MOST];
        int lane;
        int size;

        Sheet() {
            size = NONE;
        }

        boolean isThere() {
            return size != NONE;
        }

        void begin(int newLane, int newSize) {
            lane = newLane;
            size = newSize;
            Arrays.fill(values, 0);
        }

        int lowestBits(int v) {
            if (lane == BYTES) {
                return (byte) v;
            }
            return lane == SHORTS ? (short) v : v;
        }

        /** What the machine finds when this is taken as of a lane and used. */
        int faultAs(int asLane) {
            if (!isThere()) {
                return NULL_FAULT;
            }
            return asLane == lane ? 0 : CAST_FAULT;
        }

        boolean hasThree(int at) {
            return at >= 0 && at <= size - 3 && at <= MOST - 3;
        }
    }
}
