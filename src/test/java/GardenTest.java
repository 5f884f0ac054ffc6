/** Promises 6 to 20: what there is, what is changed. */
public final class GardenTest {
    private static final String TEXT = "size 3 2;lay 0 1 2;lay 4 0 5;sow 0 wheat;sow 4 moss;own 1 2;own 0 1;wall 0;wall 6;"
            + "rule 1 0 1;rule 2 4 3;stock 1 20 2;stock 2 9 3;purse 60;";

    public static void main(String[] args) {
        rule();
        cell();
        edge();
        edgesThatThereAre();
        stockAndLaw();
        ripe();
        lay();
        bare();
        sow();
        own();
        wall();
        storePriceFund();
        bite();
        Checks.finish("GardenTest");
    }

    private static void due(String call, long got, long want) {
        Checks.due(call, got, want);
    }

    /** A call that was refused with an answer, and what was there ahead of it. */
    private static void refused(SeasonYard x, String before, String call, long got, long want) {
        due(call, got, want);
        due(call + " changes nothing", Checks.stateOf(x).equals(before) ? 1 : 0, 1);
    }

    private static void rule() {
        SeasonYard x = Checks.yard(TEXT);
        x.week(2);
        int[] due = {3, 2, 2, 60, 2, 0};
        for (int what = 0; what < 6; what++) {
            due("6 rule " + what, x.rule(what), due[what]);
        }
        due("6 BAD", x.rule(-1), -1);
        due("6 BAD", x.rule(6), -1);
        SeasonYard y = Checks.yard("lay 0 1 1;sow 0 bean;");
        y.week(2);
        due("6 SPOILED", y.rule(5), 1);
    }

    private static void cell() {
        SeasonYard x = Checks.yard(TEXT);
        int[][] due = {{1, 2, 0, 0, 1}, {4, 0, -4, 0, 2}, {4, 0, -4, 0, 0}, {4, 0, -4, 0, 0}, {0, 5, 2, 0, 0}};
        for (int c = 0; c < 5; c++) {
            for (int what = 0; what < 5; what++) {
                due("7 cell " + c + " " + what, x.cell(c, what), due[c][what]);
            }
        }
        due("7 BAD", x.cell(-1, 0), -1);
        due("7 BAD", x.cell(6, 0), -1);
        due("7 BAD", x.cell(0, -1), -1);
        due("7 BAD", x.cell(0, 5), -1);
        x.week(1);
        due("7 STAGE", x.cell(0, 3), 1);
        due("7 YARDS", x.cell(0, 1), 1);
    }

    private static void edge() {
        SeasonYard x = Checks.yard(TEXT);
        int[] due = {1, 0, 0, 0, -1, 0, 0, -1, 0, -1, -1, -1, -1};
        x.wall(7, false);
        x.wall(6, false);
        for (int e = 0; e < due.length; e++) {
            due("8 edge " + e, x.edge(e), due[e]);
        }
        due("8 BAD", x.edge(-1), -1);
        due("8 BAD", x.edge(-2), -1);
        due("8 BAD", x.edge(32), -1);
    }

    private static void edgesThatThereAre() {
        for (int wide = 2; wide <= 4; wide++) {
            for (int high = 2; high <= 4; high++) {
                SeasonYard x = Checks.yard("size " + wide + " " + high + ";");
                int there = 0;
                for (int e = 0; e < 40; e++) {
                    there += x.edge(e) == 0 ? 1 : 0;
                }
                due("8 edges", there, (wide - 1) * high + wide * (high - 1));
                due("8 the last to the east", x.edge(2 * (wide * high - 2)), 0);
                due("8 the last cell", x.edge(2 * (wide * high - 1)), -1);
                due("8 the east side", x.edge(2 * (wide - 1)), -1);
                due("8 the last to the south", x.edge(2 * (wide * high - 1 - wide) + 1), 0);
                due("8 the south side", x.edge(2 * (wide * high - wide) + 1), -1);
            }
        }
    }

    private static void stockAndLaw() {
        SeasonYard x = Checks.yard(TEXT);
        int[][] stock = {{0, 1}, {20, 2}, {9, 3}, {0, 1}};
        for (int s = 0; s < 4; s++) {
            due("9 YARDS", x.stock(s, 0), stock[s][0]);
            due("9 PRICE", x.stock(s, 1), stock[s][1]);
        }
        due("9 BAD", x.stock(-1, 0), -1);
        due("9 BAD", x.stock(4, 0), -1);
        due("9 BAD", x.stock(0, -1), -1);
        due("9 BAD", x.stock(0, 2), -1);
        int[][] laws = {{1, 0, 1}, {2, 4, 3}};
        for (int k = 0; k < 2; k++) {
            for (int what = 0; what < 3; what++) {
                due("10 law", x.law(k, what), laws[k][what]);
            }
        }
        due("10 BAD", x.law(-1, 0), -1);
        due("10 BAD", x.law(2, 0), -1);
        due("10 BAD", x.law(0, -1), -1);
        due("10 BAD", x.law(0, 3), -1);
        due("10 BAD", new SeasonYard().law(0, 0), -1);
    }

    private static void ripe() {
        SeasonYard x = Checks.yard("lay 0 2 2;lay 1 2 2;lay 2 2 2;sow 0 rose;sow 1 rose;sow 2 rose;own 0 2;own 1 2;own 2 1;");
        due("11 none yet", x.ripe(2), 0);
        x.week(2);
        due("11 OWNER 0", x.ripe(0), 0);
        due("11 OWNER 1", x.ripe(1), 1);
        due("11 OWNER 2", x.ripe(2), 2);
        due("11 BAD", x.ripe(-1), -1);
        due("11 BAD", x.ripe(3), -1);
    }

    private static void lay() {
        SeasonYard x = Checks.yard(TEXT);
        due("12 lay", x.lay(5, 1, 9), 42);
        due("12 SEASON", x.cell(5, 0), 1);
        due("12 YARDS", x.cell(5, 1), 9);
        due("12 STOCK", x.stock(1, 0), 11);
        due("12 in place", x.lay(5, 2, 1), 39);
        due("12 in place", x.cell(5, 1), 1);
        due("12 the CROP stays", x.lay(4, 1, 2), 35);
        due("12 the CROP stays", x.cell(4, 2), 2);
        String state = Checks.stateOf(x);
        refused(x, state, "12 cell", x.lay(6, 1, 1), -1);
        refused(x, state, "12 cell", x.lay(-1, 1, 1), -1);
        refused(x, state, "12 season", x.lay(0, 4, 1), -1);
        refused(x, state, "12 season", x.lay(0, -1, 1), -1);
        refused(x, state, "12 yards", x.lay(0, 1, 0), -1);
        refused(x, state, "12 yards", x.lay(0, 1, 10), -1);
        refused(x, state, "12 stock", x.lay(0, 2, 9), -2);
        refused(x, state, "12 stock", x.lay(0, 3, 1), -2);
        x.store(1, 5);
        x.price(1, 7);
        state = Checks.stateOf(x);
        refused(x, state, "12 stock", x.lay(0, 1, 6), -2);
        due("12 the whole purse", x.lay(0, 1, 5), 0);
        x.store(1, 5);
        state = Checks.stateOf(x);
        refused(x, state, "12 purse", x.lay(0, 1, 1), -2);
    }

    private static void bare() {
        SeasonYard x = Checks.yard(TEXT);
        due("13 bare", x.bare(4), 5);
        due("13 SEASON", x.cell(4, 0), 4);
        due("13 YARDS", x.cell(4, 1), 0);
        due("13 the CROP stays", x.cell(4, 2), 2);
        due("13 is bare", x.bare(4), 0);
        String state = Checks.stateOf(x);
        refused(x, state, "13 BAD", x.bare(-1), -1);
        refused(x, state, "13 BAD", x.bare(6), -1);
    }

    private static void sow() {
        SeasonYard x = Checks.yard(TEXT);
        x.week(1);
        due("14 STAGE", x.cell(4, 3), 1);
        due("14 sow", x.sow(4, 2), 2);
        due("14 at STAGE 0", x.cell(4, 3), 0);
        due("14 sow", x.sow(4, 4), 2);
        x.week(1);
        due("14 sow none", x.sow(0, -4), 0);
        due("14 none", x.cell(0, 2), -4);
        due("14 none", x.cell(0, 3), 0);
        due("14 sow", x.sow(0, 0), -4);
        String state = Checks.stateOf(x);
        refused(x, state, "14 BAD", x.sow(6, 0), -1);
        refused(x, state, "14 BAD", x.sow(-1, 0), -1);
        refused(x, state, "14 BAD", x.sow(0, 5), -1);
        refused(x, state, "14 BAD", x.sow(0, -1), -1);
        refused(x, state, "14 BAD", x.sow(0, -3), -1);
    }

    private static void own() {
        SeasonYard x = Checks.yard(TEXT);
        due("15 own", x.own(1, 0), 2);
        due("15 own", x.own(1, 1), 0);
        due("15 OWNER", x.cell(1, 4), 1);
        String state = Checks.stateOf(x);
        refused(x, state, "15 BAD", x.own(6, 0), -1);
        refused(x, state, "15 BAD", x.own(-1, 0), -1);
        refused(x, state, "15 BAD", x.own(0, 3), -1);
        refused(x, state, "15 BAD", x.own(0, -1), -1);
    }

    private static void wall() {
        SeasonYard x = Checks.yard("size 3 2;wall 0;");
        due("16 wall", x.wall(0, true), 1);
        due("16 wall", x.wall(0, false), 1);
        due("16 none", x.edge(0), 0);
        due("16 wall", x.wall(0, false), 0);
        due("16 wall", x.wall(5, true), 0);
        due("16 wall", x.edge(5), 1);
        String state = Checks.stateOf(x);
        refused(x, state, "16 east", x.wall(4, true), -1);
        refused(x, state, "16 south", x.wall(7, true), -1);
        refused(x, state, "16 BAD", x.wall(-1, true), -1);
        refused(x, state, "16 BAD", x.wall(12, true), -1);
        refused(x, state, "16 BAD", x.wall(32, true), -1);
    }

    private static void storePriceFund() {
        SeasonYard x = Checks.yard(TEXT);
        due("17 store", x.store(1, 99), 20);
        due("17 store", x.store(1, 0), 99);
        due("17 STOCK", x.stock(1, 0), 0);
        due("18 price", x.price(2, 9), 3);
        due("18 price", x.price(2, 1), 9);
        due("18 PRICE", x.stock(2, 1), 1);
        due("19 fund", x.fund(999), 60);
        due("19 fund", x.fund(0), 999);
        due("19 PURSE", x.rule(3), 0);
        String state = Checks.stateOf(x);
        refused(x, state, "17 BAD", x.store(4, 1), -1);
        refused(x, state, "17 BAD", x.store(-1, 1), -1);
        refused(x, state, "17 BAD", x.store(0, 100), -1);
        refused(x, state, "17 BAD", x.store(0, -1), -1);
        refused(x, state, "18 BAD", x.price(4, 1), -1);
        refused(x, state, "18 BAD", x.price(-1, 1), -1);
        refused(x, state, "18 BAD", x.price(0, 0), -1);
        refused(x, state, "18 BAD", x.price(0, 10), -1);
        refused(x, state, "19 BAD", x.fund(-1), -1);
        refused(x, state, "19 BAD", x.fund(1000), -1);
    }

    private static void bite() {
        SeasonYard x = Checks.yard(TEXT);
        due("20 bite", x.bite(1, 4), 3);
        due("20 n", x.law(1, 2), 4);
        due("20 bite", x.bite(1, 1), 4);
        String state = Checks.stateOf(x);
        refused(x, state, "20 BAD", x.bite(2, 1), -1);
        refused(x, state, "20 BAD", x.bite(-1, 1), -1);
        refused(x, state, "20 BAD", x.bite(0, 0), -1);
        refused(x, state, "20 BAD", x.bite(0, 5), -1);
    }
}
