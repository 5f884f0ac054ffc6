/** Promises 37 to 44: by a seed, images, sheets, counts. */
public final class SheetsTest {
    private static final String TEXT = "lay 0 2 9;lay 1 1 2;sow 0 rose;sow 1 bean;sow 3 moss;wall 1;rule 2 4 1;"
            + "stock 1 9 1;stock 2 3 2;purse 20;own 3 2;";

    public static void main(String[] args) {
        drift();
        keepBack();
        sheet();
        put();
        lowestBits();
        read();
        readRefused();
        readFaults();
        count();
        Checks.finish("SheetsTest");
    }

    private static void due(String call, long got, long want) {
        Checks.due(call, got, want);
    }

    private static void unchanged(SeasonYard x, String before, String call) {
        due(call + " changes nothing", Checks.stateOf(x).equals(before) ? 1 : 0, 1);
    }

    private static void drift() {
        String text = "size 3 3;sow 0 rose;sow 1 bean;sow 2 moss;sow 3 wheat;sow 4 rye;sow 5 rose;sow 8 bean;lay 0 2 4;rule 2 4 1;";
        int[] seeds = {0, 1, -1, 42, 20261118, Integer.MIN_VALUE, Integer.MAX_VALUE};
        for (int seed : seeds) {
            SeasonYard x = Checks.yard(text);
            SeasonYard y = Checks.yard(text);
            String state = Checks.stateOf(x);
            int now = seed;
            int ripe = 0;
            for (int n = 1; n <= 60; n++) {
                now = now * 1103515245 + 12345;
                int c = (now >>> 16) % 32768 % 9;
                now = now * 1103515245 + 12345;
                int s = (now >>> 16) % 32768 % 4;
                y.store(s, 2);
                y.fund(9);
                y.lay(c, s, 2);
                ripe += y.week(1);
                due("37 RIPE", x.drift(seed, n, 0), ripe);
                due("37 SPOILED", x.drift(seed, n, 1), y.rule(5));
            }
            unchanged(x, state, "37");
        }
        SeasonYard x = new SeasonYard();
        due("37 BAD", x.drift(1, 0, 0), -1);
        due("37 BAD", x.drift(1, 61, 0), -1);
        due("37 BAD", x.drift(1, 1, 2), -1);
        due("37 BAD", x.drift(1, 1, -1), -1);
    }

    private static void keepBack() {
        SeasonYard x = Checks.yard(TEXT);
        due("39 STATE", x.back(0), -2);
        due("38 keep", x.keep(0), 0);
        x.week(2);
        due("38 keep", x.keep(1), 0);
        String later = Checks.stateOf(x);
        due("21 the bean under what spread", x.week(1), 1);
        x.bite(0, 3);
        x.wall(1, false);
        x.wall(0, true);
        x.lay(2, 1, 1);
        x.price(2, 8);
        x.own(0, 2);
        x.sow(2, 1);
        due("39 back", x.back(1), 2);
        due("39 WEEK 2 is back", Checks.stateOf(x).equals(later) ? 1 : 0, 1);
        due("39 back", x.back(0), 0);
        due("39 RULES are back", x.law(0, 2), 1);
        due("39 WALLS are back", x.edge(0), 0);
        due("39 WALLS are back", x.edge(1), 1);
        due("39 PRICES are back", x.stock(2, 1), 2);
        due("39 OWNERS are back", x.cell(0, 4), 0);
        due("44 images", x.count(1), 2);
        due("38 keep again", x.keep(1), 1);
        x.week(5);
        due("39 the later image", x.back(1), 0);
        due("38 BAD", x.keep(-1), -1);
        due("38 BAD", x.keep(2), -1);
        due("39 BAD", x.back(-1), -1);
        due("39 BAD", x.back(2), -1);
        x.see(1, 1);
        x.sheet(0, 0, 7);
        Checks.feed(x, "abc");
        x.back(0);
        due("39 SEEN stays", x.count(0), 1);
        due("39 the tape stays", x.count(2), 3);
        due("39 sheets stay", x.count(3), 7);
        x.end(0);
        x.text();
        due("39 gone by a text", x.back(0), -2);
        due("39 gone by a text", x.back(1), -2);
        due("44 images", x.count(1), 0);
        due("38 keep", x.keep(0), 0);
    }

    private static void sheet() {
        SeasonYard x = new SeasonYard();
        due("40 sheet", x.sheet(0, 0, 0), 1);
        due("44 CELLS", x.count(3), 0);
        due("40 sheet", x.sheet(0, 2, 40), 1);
        due("44 CELLS", x.count(3), 40);
        due("40 BAD", x.sheet(0, 2, 41), -1);
        due("40 BAD", x.sheet(0, 2, Integer.MAX_VALUE), -1);
        due("40 SIZE", x.sheet(0, 2, -1), -14);
        due("40 SIZE", x.sheet(0, 0, Integer.MIN_VALUE), -14);
        due("40 BAD", x.sheet(-1, 0, 1), -1);
        due("40 BAD", x.sheet(4, 0, 1), -1);
        due("40 BAD", x.sheet(0, -1, 1), -1);
        due("40 BAD", x.sheet(0, 3, 1), -1);
        due("40 BAD ahead of SIZE", x.sheet(4, 0, -1), -1);
        due("40 BAD ahead of SIZE", x.sheet(0, 3, -1), -1);
        due("40 it stays", x.count(3), 40);
        due("43 no read", x.torn(), 0);
        due("40 none came of it", x.put(3, 0, 0), -11);
    }

    private static void put() {
        SeasonYard x = new SeasonYard();
        due("41 NULL", x.put(2, 0, 1), -11);
        due("41 NULL ahead of INDEX", x.put(2, -1, 1), -11);
        x.sheet(2, 1, 3);
        due("41 put", x.put(2, 0, 1), 1);
        due("41 put", x.put(2, 2, 1), 1);
        due("41 INDEX", x.put(2, 3, 1), -12);
        due("41 INDEX", x.put(2, -1, 1), -12);
        due("41 INDEX", x.put(2, Integer.MIN_VALUE, 1), -12);
        due("41 BAD", x.put(-1, 0, 1), -1);
        due("41 BAD", x.put(4, 0, 1), -1);
        x.sheet(2, 1, 0);
        due("41 INDEX", x.put(2, 0, 1), -12);
        due("43 torn is of read", x.torn(), 0);
    }

    /** A sheet of a lane in which the layings stand. */
    private static void fill(SeasonYard x, int k, int lane, int... values) {
        x.sheet(k, lane, values.length);
        for (int i = 0; i < values.length; i++) {
            due("41 put", x.put(k, i, values[i]), 1);
        }
    }

    private static void lowestBits() {
        int[][] values = {{256, -255, 258}, {65536, -65535, 65538}, {0, 1, 2}};
        for (int lane = 0; lane < 3; lane++) {
            SeasonYard x = Checks.yard("stock 1 9 1;purse 9;");
            fill(x, 1, lane, values[lane]);
            due("41 lowest bits", x.read(1, lane, 0, 1), 1);
            due("41 lowest bits", x.cell(0, 1), 2);
            fill(x, 1, lane, 0, 1, 128 << 8 * Math.min(lane, 1));
            due("41 the sign", x.read(1, lane, 0, 1), -20);
            x.sheet(1, lane, 3);
            due("40 a new row", x.read(1, lane, 0, 1), -20);
        }
        SeasonYard x = Checks.yard("stock 1 9 1;purse 9;");
        fill(x, 1, 2, 256, 1, 2);
        due("41 an int stays whole", x.read(1, 2, 0, 1), -20);
        fill(x, 1, 1, 256, 1, 2);
        due("41 a short stays whole", x.read(1, 1, 0, 1), -20);
    }

    private static void read() {
        SeasonYard x = Checks.yard("stock 1 9 1;stock 2 3 2;purse 20;");
        fill(x, 0, 2, 9, 0, 1, 2, 3, 2, 1, 0, 1, 3);
        due("42 read", x.read(0, 2, 1, 3), 3);
        due("42 in place", x.cell(0, 1), 3);
        due("42 the second", x.cell(3, 0), 2);
        due("42 PURSE", x.rule(3), 20 - 2 - 2 - 3);
        due("42 STOCK", x.stock(1, 0), 4);
        due("43 none", x.torn(), 0);
        String state = Checks.stateOf(x);
        due("42 none", x.read(0, 2, 1, 0), 0);
        unchanged(x, state, "42 none");
        x = Checks.yard("stock 1 99 1;purse 99;");
        int[] values = new int[39];
        for (int i = 0; i < 13; i++) {
            values[3 * i] = i % 4;
            values[3 * i + 1] = 1;
            values[3 * i + 2] = 1;
        }
        fill(x, 3, 0, values);
        due("42 thirteen", x.read(3, 0, 0, 13), 13);
        due("42 PURSE", x.rule(3), 86);
        x.sheet(3, 0, 40);
        x.put(3, 38, 1);
        x.put(3, 39, 2);
        x.fund(2);
        due("42 the last three of forty, the whole purse", x.read(3, 0, 37, 1), 1);
        due("42 PURSE", x.rule(3), 0);
        due("42 not the last two of forty", x.read(3, 0, 38, 1), 0);
    }

    private static void readRefused() {
        SeasonYard x = Checks.yard("stock 1 9 1;stock 2 3 2;purse 20;");
        fill(x, 0, 1, 0, 1, 5, 1, 1, 5, 1, 1, 1);
        fill(x, 1, 1, 0, 1, 5, 0, 4, 1, 7);
        x.read(2, 0, 0, 1);
        String state = Checks.stateOf(x);
        due("42 STATE of lay", x.read(0, 1, 0, 2), -21);
        unchanged(x, state, "42 refused");
        due("42 BAD of lay", x.read(1, 1, 0, 3), -21);
        due("42 the first met", x.read(1, 1, 3, 2), -20);
        due("42 k", x.read(4, 1, 0, 1), -1);
        due("42 k", x.read(-1, 1, 0, 1), -1);
        due("42 lane", x.read(0, 3, 0, 1), -1);
        due("42 lane", x.read(0, -1, 0, 1), -1);
        due("42 n", x.read(0, 1, 0, 14), -1);
        due("42 n", x.read(0, 1, 0, -1), -1);
        due("43 it leaves torn()", x.torn(), 1);
        unchanged(x, state, "42 refused");
        due("42 the rest is well", x.read(0, 1, 3, 2), 2);
        due("43 none", x.torn(), 0);
    }

    private static void readFaults() {
        SeasonYard x = Checks.yard("stock 1 9 1;purse 20;");
        fill(x, 0, 0, 0, 1, 1, 1, 1, 1, 2, 1);
        due("42 NULL", x.read(1, 0, 0, 1), 0);
        due("43 NULL", x.torn(), 1);
        due("42 CAST", x.read(0, 1, 0, 1), 0);
        due("43 CAST", x.torn(), 3);
        due("42 CAST ahead of INDEX", x.read(0, 2, 99, 1), 0);
        due("43 CAST", x.torn(), 3);
        due("42 those that were whole", x.read(0, 0, 0, 5), 2);
        due("43 INDEX", x.torn(), 2);
        due("42 came", x.cell(1, 1), 1);
        due("42 came", x.cell(2, 1), 0);
        due("42 PURSE", x.rule(3), 18);
        due("42 no FAULT of none", x.read(3, 0, -5, 0), 0);
        due("43 no FAULT of none", x.torn(), 0);
        int[] far = {-1, 6, 8, 40, Integer.MAX_VALUE, Integer.MAX_VALUE - 2, Integer.MIN_VALUE};
        for (int f : far) {
            x.read(0, 0, 0, 0);
            due("42 INDEX", x.read(0, 0, f, 13), 0);
            due("43 INDEX", x.torn(), 2);
        }
        due("42 the last whole one", x.read(0, 0, 3, 1), 1);
        x.sheet(0, 0, 0);
        due("42 of no CELLS", x.read(0, 0, 0, 1), 0);
        due("43 INDEX", x.torn(), 2);
    }

    private static void count() {
        SeasonYard x = Checks.yard("size 3 2;wall 0;wall 2;wall 8;lay 0 1 9;lay 5 2 4;sow 0 rye;sow 1 moss;sow 2 moss;sow 3 rose;");
        int[] due = {0, 0, 0, -4, 4, 4, 13, 3};
        for (int what = 0; what < 8; what++) {
            due("44 count " + what, x.count(what), due[what]);
        }
        x.see(0, 0);
        x.keep(1);
        x.feed(0);
        x.sheet(0, 1, 12);
        x.bare(5);
        x.sow(0, -4);
        x.wall(8, false);
        int[] then = {1, 1, 1, 12, 5, 3, 9, 2};
        for (int what = 0; what < 8; what++) {
            due("44 count " + what, x.count(what), then[what]);
        }
        due("44 BAD", x.count(-1), -1);
        due("44 BAD", x.count(8), -1);
    }
}
