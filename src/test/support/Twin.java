import java.math.BigInteger;
import java.util.ArrayList;
import java.util.Arrays;
import java.util.HashMap;
import java.util.HashSet;
import java.util.List;
import java.util.Map;
import java.util.Set;

/** The whole machine once more, written from the document alone, to look at long runs of calls by: slow, with throw and catch. */
final class Twin {
    private static final int BAD = -1, STATE = -2, FULL = -3, NONE = -4;
    private static final String[] CROPS = {"wheat", "rye", "moss", "rose", "bean"};
    private static final int[][] WANTS = {{1, 2, 3}, {3, 0, 1}, {0, 0, 0}, {2, 2}, {1, 2}};
    private static final int RIPE = 3, SPOILED = 4;

    /** A call that is refused, or a text's fault. */
    private static final class Refused extends RuntimeException {
        final int answer;
        final int fault;

        Refused(int answer, int fault) {
            super(null, null, false, false);
            this.answer = answer;
            this.fault = fault;
        }
    }

    private static final class Plot {
        int season = 4;
        int yards;
        int crop = NONE;
        int stage;
        int owner;
    }

    private static final class Yard {
        int wide = 2;
        int high = 2;
        Plot[] plots = new Plot[16];
        Set<Integer> walls = new HashSet<>();
        List<int[]> rules = new ArrayList<>();
        int[] stock = new int[4];
        int[] price = {1, 1, 1, 1};
        int purse;
        int week;
        int[] ripe = new int[3];
        int spoiled;

        Yard() {
            for (int c = 0; c < 16; c++) {
                plots[c] = new Plot();
            }
        }

        Yard copy() {
            Yard y = new Yard();
            y.wide = wide;
            y.high = high;
            for (int c = 0; c < 16; c++) {
                y.plots[c].season = plots[c].season;
                y.plots[c].yards = plots[c].yards;
                y.plots[c].crop = plots[c].crop;
                y.plots[c].stage = plots[c].stage;
                y.plots[c].owner = plots[c].owner;
            }
            y.walls.addAll(walls);
            for (int[] r : rules) {
                y.rules.add(r.clone());
            }
            y.stock = stock.clone();
            y.price = price.clone();
            y.purse = purse;
            y.week = week;
            y.ripe = ripe.clone();
            y.spoiled = spoiled;
            return y;
        }

        int cells() {
            return wide * high;
        }

        Plot plot(int c) {
            need(c >= 0 && c < cells());
            return plots[c];
        }

        boolean isEdge(int e) {
            return e >= 0 && e / 2 < cells() && (e % 2 == 0 ? (e / 2 + 1) % wide != 0 : e / 2 + wide < cells());
        }

        /** The edge between two cells, or NONE where they aren't side by side. */
        int between(int c, int d) {
            for (int e = 0; e < 32; e++) {
                int other = e % 2 == 0 ? e / 2 + 1 : e / 2 + wide;
                if (isEdge(e) && (e / 2 == c && other == d || e / 2 == d && other == c)) {
                    return e;
                }
            }
            return NONE;
        }

        int[] ruleOf(int c) {
            for (int[] r : rules) {
                int next = 0;
                for (int d = 0; d < cells(); d++) {
                    int e = between(c, d);
                    next += e != NONE && !walls.contains(e) && plots[d].season == r[0] ? 1 : 0;
                }
                if (plots[c].season == r[1] && next >= r[2]) {
                    return r;
                }
            }
            return null;
        }

        void goOn() {
            int[][] by = new int[cells()][];
            for (int c = 0; c < cells(); c++) {
                by[c] = ruleOf(c);
            }
            for (int c = 0; c < cells(); c++) {
                Plot p = plots[c];
                if (by[c] != null) {
                    p.yards = p.season == 4 ? 1 : p.yards;
                    p.season = by[c][0];
                }
                if (p.crop != NONE) {
                    int then = grown(p.crop, p.stage, p.season);
                    ripe[p.owner] += then == RIPE ? 1 : 0;
                    spoiled += then == SPOILED ? 1 : 0;
                    p.crop = then > 2 ? NONE : p.crop;
                    p.stage = then > 2 ? 0 : then;
                }
                p.yards = Math.max(0, p.yards - 1);
                p.season = p.yards == 0 ? 4 : p.season;
            }
            week++;
        }

        Yard behind(int n) {
            Yard y = copy();
            for (int i = 0; i < n; i++) {
                y.goOn();
            }
            return y;
        }

        void set(int c, int season, int yards) {
            plots[c].season = season;
            plots[c].yards = yards;
        }

        int buy(int c, int s, int y) {
            need(c >= 0 && c < cells() && s >= 0 && s < 4 && y >= 1 && y <= 9);
            require(stock[s] >= y && purse >= y * price[s], STATE);
            stock[s] -= y;
            purse -= y * price[s];
            set(c, s, y);
            return purse;
        }

        int tell(int c, int what) {
            Plot p = plot(c);
            return pick(what, p.season, p.yards, p.crop, p.stage, p.owner);
        }

        int ripeInAll() {
            return Arrays.stream(ripe).sum();
        }

        String lying() {
            StringBuilder all = new StringBuilder();
            for (int c = 0; c < cells(); c++) {
                all.append(plots[c].season).append(plots[c].yards);
            }
            return all.toString();
        }
    }

    private Yard yard = new Yard();
    private String tape = "";
    private int fault;
    private List<int[]> seen = new ArrayList<>();
    private final Yard[] images = new Yard[2];
    private final Object[] sheets = new Object[4];
    private int torn;

    int cells() {
        return yard.cells();
    }

    private static void require(boolean is, int answer) {
        if (!is) {
            throw new Refused(answer, 0);
        }
    }

    private static void need(boolean is) {
        require(is, BAD);
    }

    private static int in(int v, int low, int high) {
        need(v >= low && v <= high);
        return v;
    }

    private static int pick(int what, int... all) {
        return all[in(what, 0, all.length - 1)];
    }

    private static int grown(int k, int stage, int season) {
        int[] wants = WANTS[k];
        if (wants[stage] == season) {
            return stage + 1 == wants.length ? RIPE : stage + 1;
        }
        return stage == 0 || wants[stage - 1] == season ? stage : SPOILED;
    }

    /** What a call answers. */
    long call(String name, int... n) {
        try {
            return called(name, n);
        } catch (Refused r) {
            return r.answer;
        }
    }

    private long called(String name, int[] n) {
        switch (name) {
            case "feed": return feed(n[0]);
            case "end": return end(n[0]);
            case "text": return text();
            case "fault": return fault;
            case "rule": return pick(n[0], yard.wide, yard.high, yard.rules.size(), yard.purse, yard.week, yard.spoiled);
            case "cell": return yard.tell(n[0], n[1]);
            case "edge": need(yard.isEdge(n[0])); return yard.walls.contains(n[0]) ? 1 : 0;
            case "stock": return pick(n[1], yard.stock[in(n[0], 0, 3)], yard.price[n[0]]);
            case "law": return pick(n[1], yard.rules.get(in(n[0], 0, yard.rules.size() - 1)));
            case "ripe": return pick(n[0], yard.ripe);
            case "lay": return yard.buy(n[0], n[1], n[2]);
            case "bare": return bare(n[0]);
            case "sow": return sow(n[0], n[1]);
            case "own": return own(n[0], n[1]);
            case "wall": need(yard.isEdge(n[0])); return (n[1] != 0 ? !yard.walls.add(n[0]) : yard.walls.remove(n[0])) ? 1 : 0;
            case "store": return put(yard.stock, in(n[0], 0, 3), in(n[1], 0, 99));
            case "price": return put(yard.price, in(n[0], 0, 3), in(n[1], 1, 9));
            case "fund": int had = yard.purse; yard.purse = in(n[0], 0, 999); return had;
            case "bite": return put(yard.rules.get(in(n[0], 0, yard.rules.size() - 1)), 2, in(n[1], 1, 4));
            default: return asked(name, n);
        }
    }

    private long asked(String name, int[] n) {
        switch (name) {
            case "week": return week(n[0]);
            case "ahead": return yard.behind(in(n[1], 0, 60)).tell(n[0], n[2]);
            case "spreads": return spreads();
            case "comes": return came(yard.behind(in(n[0], 0, 60)), n[1]);
            case "when": return when(n[0]);
            case "again": return again();
            case "plan": return plan(n[0], n[1], n[2]);
            case "most": return most(n[0], n[1]);
            case "fence": return fence(n[0], n[1]);
            case "blame": return blame(n[0], n[1]);
            case "luck": return luck(n[0], n[1], n[2], n[3]);
            case "see": return see(n[0], n[1]);
            case "forget": int had = seen.size(); seen = new ArrayList<>(seen.subList(0, in(n[0], 0, had))); return had;
            case "rows": return rowsAsked(n[0], n[1], n[2]);
            case "sure": return sure(n[0], n[1], n[2]);
            case "sown": return sown(n[0]);
            case "drift": return drift(n[0], n[1], n[2]);
            default: return handled(name, n);
        }
    }

    private long handled(String name, int[] n) {
        switch (name) {
            case "keep": boolean was = images[in(n[0], 0, 1)] != null; images[n[0]] = yard.copy(); return was ? 1 : 0;
            case "back": require(images[in(n[0], 0, 1)] != null, STATE); yard = images[n[0]].copy(); return yard.week;
            case "sheet": return sheet(n[0], n[1], n[2]);
            case "put": return putIn(n[0], n[1], n[2]);
            case "read": return read(n[0], n[1], n[2], n[3]);
            case "torn": return torn;
            case "count": return count(n[0]);
            default: throw new IllegalArgumentException(name);
        }
    }

    private static int put(int[] row, int at, int v) {
        int had = row[at];
        row[at] = v;
        return had;
    }

    // ---- the text

    private int feed(int c) {
        in(c, 0, 127);
        require(tape.length() < 160, FULL);
        tape += (char) c;
        return tape.length();
    }

    private int end(int n) {
        int had = tape.length();
        tape = tape.substring(0, in(n, 0, had));
        return had;
    }

    private int text() {
        TwinText reader = new TwinText(tape);
        tape = "";
        fault = reader.fault;
        if (fault != 0) {
            return -10 - reader.place;
        }
        yard = new Yard();
        for (int[] line : reader.lines) {
            tell(line);
        }
        seen.clear();
        Arrays.fill(images, null);
        return reader.lines.size();
    }

    private void tell(int[] line) {
        switch (TwinText.NAMES[line[0]]) {
            case "size": yard.wide = line[1]; yard.high = line[2]; break;
            case "lay": yard.set(line[1], line[2], line[3]); break;
            case "sow": yard.plots[line[1]].crop = line[2]; break;
            case "own": yard.plots[line[1]].owner = line[2]; break;
            case "wall": yard.walls.add(line[1]); break;
            case "rule": yard.rules.add(new int[] {line[1], line[2], line[3]}); break;
            case "stock": yard.stock[line[1]] = line[2]; yard.price[line[1]] = line[3]; break;
            default: yard.purse = line[1]; break;
        }
    }

    // ---- what is changed

    private int bare(int c) {
        int had = yard.plot(c).yards;
        yard.set(c, 4, 0);
        return had;
    }

    private int sow(int c, int k) {
        Plot p = yard.plot(c);
        need(k == NONE || k >= 0 && k < CROPS.length);
        int had = p.crop;
        p.crop = k;
        p.stage = 0;
        return had;
    }

    private int own(int c, int o) {
        int had = yard.plot(c).owner;
        yard.plots[c].owner = in(o, 0, 2);
        return had;
    }

    // ---- weeks

    private int week(int n) {
        in(n, 0, 60);
        require(yard.week + n < 1000, FULL);
        Yard then = yard.behind(n);
        int came = came(then, 0);
        yard = then;
        return came;
    }

    private int came(Yard then, int what) {
        return pick(what, then.ripeInAll() - yard.ripeInAll(), then.spoiled - yard.spoiled);
    }

    private int spreads() {
        int bits = 0;
        for (int c = 0; c < cells(); c++) {
            bits += yard.ruleOf(c) == null ? 0 : 1 << c;
        }
        return bits;
    }

    /** As a cell's owner is asked for nothing but its count, one of its own tells its crop from all others. */
    private int when(int c) {
        require(yard.plot(c).crop != NONE, STATE);
        Yard then = yard.copy();
        for (int d = 0; d < 16; d++) {
            then.plots[d].owner = d == c ? 1 : 0;
        }
        int before = then.ripe[1];
        for (int i = 1; i <= 60; i++) {
            then.goOn();
            if (then.ripe[1] > before) {
                return i;
            }
        }
        return NONE;
    }

    private int again() {
        Yard then = yard.copy();
        for (int i = 1; i <= 60; i++) {
            then.goOn();
            if (then.lying().equals(yard.lying())) {
                return i;
            }
        }
        return NONE;
    }

    // ---- the best, luck

    private int plan(int c, int n, int what) {
        Plot p = yard.plot(c);
        in(n, 1, 6);
        need(what == 0 || what >= 10 && what < 10 + n);
        require(p.crop != NONE, STATE);
        int[] best = planned(p.crop, p.stage, p.season, p.yards, n, new HashMap<>());
        require(best != null, NONE);
        return what == 0 ? best[0] : best[what - 9];
    }

    /** The price of the best row of layings and the row itself, or null. */
    private int[] planned(int k, int stage, int season, int yards, int n, Map<List<Integer>, int[]> known) {
        if (stage == RIPE) {
            return new int[n + 1];
        }
        if (stage == SPOILED || n == 0) {
            return null;
        }
        List<Integer> key = List.of(stage, season, yards, n);
        if (known.containsKey(key)) {
            return known.get(key);
        }
        int[] best = null;
        for (int laid = 0; laid < 50; laid++) {
            if (laid == 0 || laid > 10 && laid % 10 != 0) {
                int s = laid == 0 ? season : laid / 10 - 1;
                int y = laid == 0 ? yards : laid % 10;
                int[] rest = planned(k, grown(k, stage, s), y > 1 ? s : 4, Math.max(0, y - 1), n - 1, known);
                int costs = laid == 0 ? 0 : y * yard.price[s];
                if (rest != null && (best == null || costs + rest[0] < best[0])) {
                    best = new int[n + 1];
                    best[0] = costs + rest[0];
                    best[1] = laid;
                    System.arraycopy(rest, 1, best, 2, n - 1);
                }
            }
        }
        known.put(key, best);
        return best;
    }

    private int most(int n, int what) {
        in(n, 1, 12);
        in(what, 0, 1);
        int best = -1;
        int which = 0;
        for (int c = 0; c < cells(); c++) {
            for (int s = 0; s < 4; s++) {
                Yard y = yard.copy();
                y.set(c, s, 3);
                int came = came(y.behind(n), 0);
                if (came > best) {
                    best = came;
                    which = 10 * c + s;
                }
            }
        }
        return pick(what, which, best);
    }

    private int fence(int n, int what) {
        in(n, 1, 12);
        in(what, 0, 1);
        int best = came(yard.behind(n), 1);
        int which = NONE;
        for (int e = 0; e < 32; e++) {
            if (yard.isEdge(e) && !yard.walls.contains(e)) {
                Yard y = yard.copy();
                y.walls.add(e);
                int came = came(y.behind(n), 1);
                if (came < best) {
                    best = came;
                    which = e;
                }
            }
        }
        require(which != NONE, NONE);
        return pick(what, which, best);
    }

    private int blame(int c, int n) {
        Plot p = yard.plot(c);
        in(n, 1, 12);
        require(p.crop != NONE, STATE);
        Yard then = yard.behind(n);
        int bits = 0;
        for (int d = 0; d < cells(); d++) {
            Yard y = yard.copy();
            y.set(d, 4, 0);
            y = y.behind(n);
            boolean isSame = y.tell(c, 2) == then.tell(c, 2) && y.tell(c, 3) == then.tell(c, 3);
            bits += d == c || isSame ? 0 : 1 << d;
        }
        return bits;
    }

    private long luck(int c, int v, int n, int what) {
        Plot p = yard.plot(c);
        in(v, 0, 10);
        in(n, 1, 8);
        in(what, 0, 1);
        require(p.crop != NONE, STATE);
        BigInteger good = lucky(p.crop, p.stage, p.season, p.yards, v, n);
        BigInteger all = BigInteger.TEN.pow(n);
        BigInteger common = good.gcd(all);
        return (what == 0 ? good : all).divide(common).longValueExact();
    }

    private static BigInteger lucky(int k, int stage, int season, int yards, int v, int n) {
        if (stage == RIPE) {
            return BigInteger.TEN.pow(n);
        }
        if (stage == SPOILED || n == 0) {
            return BigInteger.ZERO;
        }
        int then = grown(k, stage, season);
        BigInteger kept = lucky(k, then, yards > 1 ? season : 4, Math.max(0, yards - 1), v, n - 1);
        BigInteger lost = lucky(k, then, yards > 2 ? season : 4, Math.max(0, yards - 2), v, n - 1);
        return kept.multiply(BigInteger.valueOf(10 - v)).add(lost.multiply(BigInteger.valueOf(v)));
    }

    // ---- stubble

    private int see(int week, int stage) {
        in(week, 0, 4);
        in(stage, 0, 4);
        require(seen.size() < 6, FULL);
        seen.add(new int[] {week, stage});
        return seen.size();
    }

    /** All rows that fit, as numbers to the base 5. */
    private List<Integer> rows(int k, int w) {
        in(k, 0, 4);
        in(w, 1, 5);
        List<Integer> all = new ArrayList<>();
        for (int row = 0; row < (int) Math.pow(5, w); row++) {
            int[] stages = new int[w];
            int stage = 0;
            for (int i = 0; i < w; i++) {
                stage = stage > 2 ? stage : grown(k, stage, figure(row, w, i));
                stages[i] = stage;
            }
            if (seen.stream().allMatch(s -> s[0] >= w || stages[s[0]] == s[1])) {
                all.add(row);
            }
        }
        return all;
    }

    private static int figure(int row, int w, int i) {
        return row / (int) Math.pow(5, w - 1 - i) % 5;
    }

    private int rowsAsked(int k, int w, int what) {
        List<Integer> all = rows(k, w);
        in(what, 0, 1);
        return what == 0 ? all.size() : all.isEmpty() ? NONE : all.get(0);
    }

    private int sure(int k, int w, int week) {
        List<Integer> all = rows(k, w);
        in(week, 0, w - 1);
        require(all.stream().map(row -> figure(row, w, week)).distinct().count() == 1, NONE);
        return figure(all.get(0), w, week);
    }

    private int sown(int w) {
        int bits = 0;
        for (int k = 0; k < 5; k++) {
            bits += rows(k, w).isEmpty() ? 0 : 1 << k;
        }
        return bits;
    }

    // ---- by a seed

    private int drift(int seed, int n, int what) {
        in(n, 1, 60);
        long now = seed;
        Yard then = yard.copy();
        for (int i = 0; i < n; i++) {
            now = now * 1103515245L + 12345L;
            int c = (int) ((now >> 16 & 0x7fff) % cells());
            now = now * 1103515245L + 12345L;
            then.set(c, (int) ((now >> 16 & 0x7fff) % 4), 2);
            then.goOn();
        }
        return came(then, what);
    }

    // ---- sheets: here the machine itself finds the faults

    private static int faultOf(RuntimeException e) {
        return e instanceof NullPointerException ? 1 : e instanceof ArrayIndexOutOfBoundsException ? 2
                : e instanceof ClassCastException ? 3 : e instanceof NegativeArraySizeException ? 4 : 0;
    }

    private int sheet(int k, int lane, int n) {
        in(k, 0, 3);
        in(lane, 0, 2);
        need(n <= 40);
        try {
            sheets[k] = lane == 0 ? new byte[n] : lane == 1 ? new short[n] : new int[n];
            return 1;
        } catch (NegativeArraySizeException e) {
            return -10 - faultOf(e);
        }
    }

    private int putIn(int k, int i, int v) {
        Object sheet = sheets[in(k, 0, 3)];
        try {
            if (sheet instanceof byte[]) {
                ((byte[]) sheet)[i] = (byte) v;
            } else if (sheet instanceof short[]) {
                ((short[]) sheet)[i] = (short) v;
            } else {
                ((int[]) sheet)[i] = v;
            }
            return 1;
        } catch (NullPointerException | ArrayIndexOutOfBoundsException e) {
            return -10 - faultOf(e);
        }
    }

    private static int read(Object sheet, int lane, int i) {
        return lane == 0 ? ((byte[]) sheet)[i] : lane == 1 ? ((short[]) sheet)[i] : ((int[]) sheet)[i];
    }

    private int read(int k, int lane, int f, int n) {
        in(k, 0, 3);
        in(lane, 0, 2);
        in(n, 0, 13);
        Yard then = yard.copy();
        int came = 0;
        int found = 0;
        try {
            for (int i = 0; i < n; i++) {
                int[] laying = new int[3];
                for (int j = 0; j < 3; j++) {
                    laying[j] = read(sheets[k], lane, f + 3 * i + j);
                }
                if (!lays(then, laying)) {
                    return -20 - i;
                }
                came++;
            }
        } catch (NullPointerException | ArrayIndexOutOfBoundsException | ClassCastException e) {
            found = faultOf(e);
        }
        yard = then;
        torn = found;
        return came;
    }

    private static boolean lays(Yard yard, int[] laying) {
        try {
            yard.buy(laying[0], laying[1], laying[2]);
            return true;
        } catch (Refused r) {
            return false;
        }
    }

    private int count(int what) {
        in(what, 0, 7);
        int[] of = new int[8];
        of[0] = seen.size();
        of[1] = (images[0] == null ? 0 : 1) + (images[1] == null ? 0 : 1);
        of[2] = tape.length();
        of[3] = sheets[0] == null ? NONE : java.lang.reflect.Array.getLength(sheets[0]);
        for (int c = 0; c < cells(); c++) {
            of[4] += yard.plots[c].season == 4 ? 1 : 0;
            of[5] += yard.plots[c].crop == NONE ? 0 : 1;
            of[6] += yard.plots[c].yards;
        }
        of[7] = yard.walls.size();
        return of[what];
    }
}
