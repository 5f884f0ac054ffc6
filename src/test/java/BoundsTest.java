import java.util.ArrayList;
import java.util.Arrays;
import java.util.List;
import java.util.function.Supplier;

/**
 * Every number of every call at its bounds: the last that is taken and the first that is refused on each side, all of a
 * call's numbers against one another, in gardens where BAD must come ahead of STATE, FULL and NONE.
 */
public final class BoundsTest {
    /** What of an object the bounds hang on. */
    private static final class Facts {
        final int wide;
        final int high;
        final int rules;
        final int bytes;
        final int seen;

        Facts(int wide, int high, int rules, int bytes, int seen) {
            this.wide = wide;
            this.high = high;
            this.rules = rules;
            this.bytes = bytes;
            this.seen = seen;
        }

        boolean isEdge(int e) {
            int c = Math.floorDiv(e, 2);
            boolean isCell = c >= 0 && c < wide * high;
            return isCell && (Math.floorMod(e, 2) == 0 ? c % wide + 1 < wide : c + wide < wide * high);
        }
    }

    private interface Call {
        long on(SeasonYard x, int[] a);
    }

    private interface Taken {
        boolean is(Facts f, int[] a);
    }

    private static final class Row {
        final String name;
        /** For each number what is tried. */
        final int[][] tried;
        final Call call;
        final Taken taken;

        Row(String name, int[][] tried, Call call, Taken taken) {
            this.name = name;
            this.tried = tried;
            this.call = call;
            this.taken = taken;
        }
    }

    private static final List<Row> ROWS = new ArrayList<>();
    private static final int MIN = Integer.MIN_VALUE;
    private static final int MAX = Integer.MAX_VALUE;
    private static final int[] CELLS = {MIN, -1, 0, 1, 2, 3, 4, 5, 6, 7, 8, 9, 11, 12, 13, 15, 16, 17, 256, 65536, MAX};
    private static final int[] EDGES = from(-40, 80);

    private static void row(String name, Call call, Taken taken, int[]... tried) {
        ROWS.add(new Row(name, tried, call, taken));
    }

    private static boolean in(int v, int low, int high) {
        return low <= v && v <= high;
    }

    private static boolean isCell(Facts f, int c) {
        return in(c, 0, f.wide * f.high - 1);
    }

    /** The bounds, the first beyond them, one between, far ones, and such as would be taken if bits above were lost. */
    private static int[] of(int low, int high) {
        return new int[] {MIN, MIN + low, -1000, -4, -2, low - 1, low, (low + high) / 2, high, high + 1, high + 2, low + 256,
            low + 65536, high + 1000, MAX};
    }

    /** Every number from one to another, and the far ones. */
    private static int[] from(int low, int high) {
        int[] all = Arrays.copyOf(of(low, high), 15 + high - low + 1);
        for (int v = low; v <= high; v++) {
            all[15 + v - low] = v;
        }
        return all;
    }

    private static void rowsOfWhatThereIs() {
        row("2 feed", (x, a) -> x.feed(a[0]), (f, a) -> in(a[0], 0, 127), from(-2, 300));
        row("3 end", (x, a) -> x.end(a[0]), (f, a) -> in(a[0], 0, f.bytes), from(-2, 163));
        row("6 rule", (x, a) -> x.rule(a[0]), (f, a) -> in(a[0], 0, 5), from(-2, 40));
        row("7 cell", (x, a) -> x.cell(a[0], a[1]), (f, a) -> isCell(f, a[0]) && in(a[1], 0, 4), CELLS, from(-2, 20));
        row("8 edge", (x, a) -> x.edge(a[0]), (f, a) -> f.isEdge(a[0]), EDGES);
        row("9 stock", (x, a) -> x.stock(a[0], a[1]), (f, a) -> in(a[0], 0, 3) && in(a[1], 0, 1), from(-2, 20), from(-2, 20));
        row("10 law", (x, a) -> x.law(a[0], a[1]), (f, a) -> in(a[0], 0, f.rules - 1) && in(a[1], 0, 2), from(-2, 20), from(-2, 20));
        row("11 ripe", (x, a) -> x.ripe(a[0]), (f, a) -> in(a[0], 0, 2), from(-2, 20));
        row("44 count", (x, a) -> x.count(a[0]), (f, a) -> in(a[0], 0, 7), from(-2, 20));
    }

    private static void rowsOfWhatIsChanged() {
        row("12 lay", (x, a) -> x.lay(a[0], a[1], a[2]), (f, a) -> isCell(f, a[0]) && in(a[1], 0, 3) && in(a[2], 1, 9),
            CELLS, of(0, 3), of(1, 9));
        row("13 bare", (x, a) -> x.bare(a[0]), (f, a) -> isCell(f, a[0]), CELLS);
        row("14 sow", (x, a) -> x.sow(a[0], a[1]), (f, a) -> isCell(f, a[0]) && (a[1] == -4 || in(a[1], 0, 4)), CELLS, from(-7, 7));
        row("15 own", (x, a) -> x.own(a[0], a[1]), (f, a) -> isCell(f, a[0]) && in(a[1], 0, 2), CELLS, of(0, 2));
        row("16 wall", (x, a) -> x.wall(a[0], true), (f, a) -> f.isEdge(a[0]), EDGES);
        row("16 no wall", (x, a) -> x.wall(a[0], false), (f, a) -> f.isEdge(a[0]), EDGES);
        row("17 store", (x, a) -> x.store(a[0], a[1]), (f, a) -> in(a[0], 0, 3) && in(a[1], 0, 99), of(0, 3), of(0, 99));
        row("18 price", (x, a) -> x.price(a[0], a[1]), (f, a) -> in(a[0], 0, 3) && in(a[1], 1, 9), of(0, 3), of(1, 9));
        row("19 fund", (x, a) -> x.fund(a[0]), (f, a) -> in(a[0], 0, 999), from(-2, 1002));
        row("20 bite", (x, a) -> x.bite(a[0], a[1]), (f, a) -> in(a[0], 0, f.rules - 1) && in(a[1], 1, 4), from(-2, 7), of(1, 4));
    }

    private static void rowsOfWeeks() {
        row("21 week", (x, a) -> x.week(a[0]), (f, a) -> in(a[0], 0, 60), from(-2, 63));
        row("22 ahead", (x, a) -> x.ahead(a[0], a[1], a[2]), (f, a) -> isCell(f, a[0]) && in(a[1], 0, 60) && in(a[2], 0, 4),
            CELLS, of(0, 60), of(0, 4));
        row("24 comes", (x, a) -> x.comes(a[0], a[1]), (f, a) -> in(a[0], 0, 60) && in(a[1], 0, 1), of(0, 60), of(0, 1));
        row("25 when", (x, a) -> x.when(a[0]), (f, a) -> isCell(f, a[0]), CELLS);
        row("27 plan", (x, a) -> x.plan(a[0], a[1], a[2]),
            (f, a) -> isCell(f, a[0]) && in(a[1], 1, 6) && (a[2] == 0 || in(a[2], 10, 9 + a[1])), CELLS, from(-2, 8), from(-2, 18));
        row("28 most", (x, a) -> x.most(a[0], a[1]), (f, a) -> in(a[0], 1, 12) && in(a[1], 0, 1), of(1, 12), of(0, 1));
        row("29 fence", (x, a) -> x.fence(a[0], a[1]), (f, a) -> in(a[0], 1, 12) && in(a[1], 0, 1), of(1, 12), of(0, 1));
        row("30 blame", (x, a) -> x.blame(a[0], a[1]), (f, a) -> isCell(f, a[0]) && in(a[1], 1, 12), CELLS, of(1, 12));
        row("31 luck", (x, a) -> x.luck(a[0], a[1], a[2], a[3]),
            (f, a) -> isCell(f, a[0]) && in(a[1], 0, 10) && in(a[2], 1, 8) && in(a[3], 0, 1), CELLS, of(0, 10), of(1, 8), of(0, 1));
    }

    private static void rowsOfTheOthers() {
        row("32 see", (x, a) -> x.see(a[0], a[1]), (f, a) -> in(a[0], 0, 4) && in(a[1], 0, 4), of(0, 4), of(0, 4));
        row("33 forget", (x, a) -> x.forget(a[0]), (f, a) -> in(a[0], 0, f.seen), from(-2, 9));
        row("34 rows", (x, a) -> x.rows(a[0], a[1], a[2]), (f, a) -> in(a[0], 0, 4) && in(a[1], 1, 5) && in(a[2], 0, 1),
            of(0, 4), of(1, 5), of(0, 1));
        row("35 sure", (x, a) -> x.sure(a[0], a[1], a[2]), (f, a) -> in(a[0], 0, 4) && in(a[1], 1, 5) && in(a[2], 0, a[1] - 1),
            of(0, 4), from(-2, 8), from(-2, 8));
        row("36 sown", (x, a) -> x.sown(a[0]), (f, a) -> in(a[0], 1, 5), from(-2, 20));
        row("37 drift", (x, a) -> x.drift(a[0], a[1], a[2]), (f, a) -> in(a[1], 1, 60) && in(a[2], 0, 1),
            new int[] {MIN, -1, 0, 1, MAX}, of(1, 60), of(0, 1));
        row("38 keep", (x, a) -> x.keep(a[0]), (f, a) -> in(a[0], 0, 1), from(-2, 40));
        row("39 back", (x, a) -> x.back(a[0]), (f, a) -> in(a[0], 0, 1), from(-2, 40));
        row("40 sheet", (x, a) -> x.sheet(a[0], a[1], a[2]), (f, a) -> in(a[0], 0, 3) && in(a[1], 0, 2) && a[2] <= 40,
            of(0, 3), of(0, 2), of(0, 40));
        row("41 put", (x, a) -> x.put(a[0], a[1], a[2]), (f, a) -> in(a[0], 0, 3), of(0, 3), of(0, 39), of(0, 9));
        row("42 read", (x, a) -> x.read(a[0], a[1], a[2], a[3]), (f, a) -> in(a[0], 0, 3) && in(a[1], 0, 2) && in(a[3], 0, 13),
            of(0, 3), of(0, 2), of(0, 40), of(0, 13));
    }

    public static void main(String[] args) {
        rowsOfWhatThereIs();
        rowsOfWhatIsChanged();
        rowsOfWeeks();
        rowsOfTheOthers();
        all(new Facts(2, 2, 0, 0, 0), SeasonYard::new);
        all(new Facts(4, 4, 5, 160, 6), BoundsTest::full);
        all(new Facts(3, 2, 1, 1, 5), BoundsTest::late);
        for (int wide = 2; wide <= 4; wide++) {
            for (int high = 2; high <= 4; high++) {
                String text = "size " + wide + " " + high + ";";
                cellsAndEdges(new Facts(wide, high, 0, 0, 0), () -> Checks.yard(text));
            }
        }
        Checks.finish("BoundsTest");
    }

    /** All is told, the tape, what is seen and the images are full. */
    private static SeasonYard full() {
        SeasonYard x = Checks.yard("size 4 4;lay 0 2 9;sow 0 rose;sow 15 moss;own 15 2;wall 0;wall 28;rule 2 4 1;rule 1 0 4;rule 0 1 2;"
            + "rule 3 2 3;rule 0 3 1;stock 2 99 9;purse 99;");
        for (int i = 0; i < 160; i++) {
            x.feed(32);
        }
        for (int i = 0; i < 6; i++) {
            x.see(4, 3);
        }
        for (int k = 0; k < 4; k++) {
            x.sheet(k, k % 3, 40);
        }
        x.keep(0);
        x.keep(1);
        return x;
    }

    /** No week more can go, nothing can be bought, no crop is sown. */
    private static SeasonYard late() {
        SeasonYard x = Checks.yard("size 3 2;rule 0 4 4;");
        for (int i = 0; i < 17; i++) {
            x.week(i == 0 ? 39 : 60);
        }
        Checks.due("21 the last WEEK", x.rule(4), 999);
        for (int i = 0; i < 5; i++) {
            x.see(0, i);
        }
        x.feed('a');
        return x;
    }

    private static void all(Facts f, Supplier<SeasonYard> made) {
        for (Row r : ROWS) {
            around(r, f, made);
        }
    }

    private static void cellsAndEdges(Facts f, Supplier<SeasonYard> made) {
        for (Row r : ROWS) {
            if (r.tried[0] == CELLS || r.tried[0] == EDGES) {
                around(r, f, made);
            }
        }
    }

    /** All numbers of a call at their bounds: BAD where one is not as told, and nothing is changed; else never BAD. */
    private static void around(Row r, Facts f, Supplier<SeasonYard> made) {
        int rounds = 1;
        for (int[] tried : r.tried) {
            rounds *= tried.length;
        }
        int[] a = new int[r.tried.length];
        SeasonYard x = made.get();
        String before = Checks.stateOf(x);
        boolean isOneTaken = false;
        for (int i = 0; i < rounds; i++) {
            for (int k = 0, rest = i; k < a.length; k++) {
                a[k] = r.tried[k][rest % r.tried[k].length];
                rest /= r.tried[k].length;
            }
            boolean isTaken = r.taken.is(f, a);
            SeasonYard y = isTaken ? made.get() : x;
            long got = r.call.on(y, a);
            Checks.due(told(r, a) + " is taken", got == -1 ? 0 : 1, isTaken ? 1 : 0);
            isOneTaken |= isTaken;
        }
        Checks.due(r.name + " changes nothing by what is refused", Checks.stateOf(x).equals(before) ? 1 : 0, 1);
        boolean isNeverTaken = f.rules == 0 && (r.name.equals("10 law") || r.name.equals("20 bite"));
        Checks.due(r.name + " is taken once", isOneTaken || isNeverTaken ? 1 : 0, 1);
    }

    private static String told(Row r, int[] a) {
        StringBuilder all = new StringBuilder(r.name).append(" of");
        for (int v : a) {
            all.append(' ').append(v);
        }
        return all.toString();
    }
}
