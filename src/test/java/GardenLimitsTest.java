/** Promises 1 and 6 to 26: the least and the most of what there is and of weeks, what is empty, full, refused. */
public final class GardenLimitsTest {
    public static void main(String[] args) {
        newObject();
        ripeAndSpoiled();
        layAtStock();
        layAtPurse();
        layRefused();
        layInPlace();
        bare();
        sow();
        own();
        wall();
        stockAndPurse();
        bite();
        ruleFitsFrom();
        ruleOverBare();
        yardsRunOut();
        weekAtTheLast();
        weekRefused();
        ahead();
        spreads();
        comes();
        when();
        again();
        Checks.finish("GardenLimitsTest");
    }

    private static void due(String call, long got, long want) {
        Checks.due(call, got, want);
    }

    /** An object is as it was ahead of a call. */
    private static void same(String call, SeasonYard x, String before) {
        due(call + " changes nothing", Checks.stateOf(x).equals(before) ? 1 : 0, 1);
    }

    private static void newObject() {
        SeasonYard x = new SeasonYard();
        due("1 WIDE", x.rule(0), 2);
        due("1 HIGH", x.rule(1), 2);
        int[] counts = {0, 0, 0, -4, 4, 0, 0, 0};
        for (int what = 0; what < 8; what++) {
            due("1 count " + what, x.count(what), counts[what]);
        }
        int[] edges = {0, 0, -1, 0, 0, -1, -1, -1, -1};
        for (int e = 0; e < edges.length; e++) {
            due("1 edge " + e, x.edge(e), edges[e]);
        }
        for (int k = 0; k < 4; k++) {
            due("1 no sheet", x.put(k, 0, 0), -11);
            due("1 no sheet", x.read(k, 0, 0, 1), 0);
            due("1 no sheet", x.torn(), 1);
            due("1 no rule", x.law(k, 0), -1);
        }
        due("1 no image", x.back(0), -2);
        due("1 no image", x.back(1), -2);
        due("1 nothing lies", x.again(), 1);
        due("1 no crop", x.when(0), -2);
        due("1 nobody's", x.ripe(0) + x.ripe(1) + x.ripe(2), 0);
    }

    private static void ripeAndSpoiled() {
        SeasonYard x = Checks.yard("size 4 4;");
        for (int c = 0; c < 16; c++) {
            x.sow(c, 4);
            x.own(c, c % 3);
            x.store(1, 9);
            x.fund(9);
            x.lay(c, 1, 1);
        }
        due("21 none is ripe yet", x.week(1), 0);
        for (int c = 0; c < 10; c++) {
            x.store(2, 9);
            x.fund(9);
            x.lay(c, 2, 1);
        }
        due("21 ten", x.week(1), 10);
        due("11 OWNER 0", x.ripe(0), 4);
        due("11 OWNER 1", x.ripe(1), 3);
        due("11 OWNER 2", x.ripe(2), 3);
        due("6 SPOILED", x.rule(5), 6);
        due("44 CROPS", x.count(5), 0);
        due("44 BARE", x.count(4), 16);
    }

    private static void layAtStock() {
        for (int y = 1; y <= 9; y++) {
            SeasonYard x = new SeasonYard();
            x.fund(999);
            x.store(2, y - 1);
            String before = Checks.stateOf(x);
            due("12 one YARD too few", x.lay(3, 2, y), -2);
            same("12", x, before);
            x.store(2, y);
            due("12 just so many", x.lay(3, 2, y), 999 - y);
            due("12 none is left", x.stock(2, 0), 0);
            due("12 YARDS", x.cell(3, 1), y);
        }
    }

    private static void layAtPurse() {
        for (int y = 1; y <= 9; y++) {
            for (int v = 1; v <= 9; v++) {
                SeasonYard x = new SeasonYard();
                x.store(1, 99);
                x.price(1, v);
                x.fund(y * v - 1);
                due("12 PURSE is one too small", x.lay(0, 1, y), -2);
                due("12 STOCK stays", x.stock(1, 0), 99);
                due("12 the cell stays", x.cell(0, 0), 4);
                x.fund(y * v);
                due("12 PURSE just so", x.lay(0, 1, y), 0);
                due("12 STOCK", x.stock(1, 0), 99 - y);
                x.fund(999);
                due("12 the fullest PURSE", x.lay(0, 1, y), 999 - y * v);
            }
        }
    }

    private static void layRefused() {
        SeasonYard x = new SeasonYard();
        due("12 BAD ahead of STATE", x.lay(4, 0, 1), -1);
        due("12 BAD ahead of STATE", x.lay(0, 4, 1), -1);
        due("12 BAD ahead of STATE", x.lay(0, 0, 0), -1);
        due("12 BAD ahead of STATE", x.lay(0, 0, 10), -1);
        due("12 neither STOCK nor PURSE", x.lay(0, 0, 1), -2);
        x.store(0, 9);
        due("12 no PURSE", x.lay(0, 0, 1), -2);
        x.store(0, 0);
        x.fund(9);
        due("12 no STOCK", x.lay(0, 0, 1), -2);
        x.store(1, 9);
        due("12 no STOCK of this SEASON", x.lay(0, 0, 1), -2);
        due("12 nothing came", x.cell(0, 0), 4);
        due("12 nothing went", x.rule(3), 9);
    }

    private static void layInPlace() {
        SeasonYard x = Checks.yard("lay 0 3 9;sow 0 rye;own 0 2;stock 0 9 1;stock 3 9 1;purse 99;");
        x.week(1);
        due("12 one YARD in place of eight", x.lay(0, 0, 1), 98);
        due("12 SEASON", x.cell(0, 0), 0);
        due("12 YARDS", x.cell(0, 1), 1);
        due("12 the CROP stays", x.cell(0, 2), 1);
        due("12 its STAGE stays", x.cell(0, 3), 1);
        due("12 the OWNER stays", x.cell(0, 4), 2);
        due("12 the same SEASON in place", x.lay(0, 0, 2), 96);
        due("12 in place, none behind the others", x.cell(0, 1), 2);
    }

    private static void bare() {
        SeasonYard x = Checks.yard("lay 0 1 1;lay 1 2 9;sow 1 rose;own 1 1;");
        due("13 the fewest", x.bare(0), 1);
        due("13 the most", x.bare(1), 9);
        due("13 it is BARE", x.bare(1), 0);
        due("13 it was BARE ever", x.bare(2), 0);
        due("13 SEASON", x.cell(1, 0), 4);
        due("13 the CROP stays", x.cell(1, 2), 3);
        due("13 the OWNER stays", x.cell(1, 4), 1);
        due("13 STOCK has none of it", x.stock(2, 0), 0);
    }

    private static void sow() {
        SeasonYard x = new SeasonYard();
        due("14 none in place of none", x.sow(0, -4), -4);
        due("44 CROPS", x.count(5), 0);
        for (int k = 0; k < 5; k++) {
            due("14 in place of the one ahead", x.sow(0, k), k == 0 ? -4 : k - 1);
            due("14 CROP", x.cell(0, 2), k);
        }
        due("14 none in place of the last", x.sow(0, -4), 4);
        due("14 none", x.cell(0, 2), -4);
        x.store(0, 9);
        x.fund(9);
        x.lay(1, 0, 9);
        x.sow(1, 2);
        x.week(2);
        due("14 STAGE", x.cell(1, 3), 2);
        due("14 the same again", x.sow(1, 2), 2);
        due("14 at STAGE 0", x.cell(1, 3), 0);
        x.week(1);
        due("14 none, at STAGE 1", x.sow(1, -4), 2);
        due("14 STAGE 0 where there is none", x.cell(1, 3), 0);
        due("14 nothing is spoiled", x.rule(5), 0);
    }

    private static void own() {
        SeasonYard x = new SeasonYard();
        due("15 the first", x.own(3, 2), 0);
        due("15 the same again", x.own(3, 2), 2);
        due("15 and back", x.own(3, 0), 2);
        due("15 one alone", x.cell(2, 4), 0);
    }

    private static void wall() {
        SeasonYard x = Checks.yard("size 4 4;");
        int there = 0;
        for (int e = 0; e < 32; e++) {
            if (x.edge(e) == 0) {
                due("16 none was", x.wall(e, true), 0);
                due("16 there was", x.wall(e, true), 1);
                there++;
            } else {
                due("16 no EDGE", x.wall(e, true), -1);
                due("16 no EDGE", x.wall(e, false), -1);
            }
        }
        due("16 EDGES of the widest", there, 24);
        due("44 WALLS", x.count(7), 24);
        due("16 the first", x.wall(0, false), 1);
        due("16 the last", x.wall(28, false), 1);
        due("16 none was", x.wall(28, false), 0);
        due("44 WALLS", x.count(7), 22);
    }

    private static void stockAndPurse() {
        SeasonYard x = new SeasonYard();
        for (int s = 0; s < 4; s++) {
            due("17 the most", x.store(s, 99), 0);
            due("17 the least", x.store(s, 0), 99);
            due("18 the most", x.price(s, 9), 1);
            due("18 the least", x.price(s, 1), 9);
            String before = Checks.stateOf(x);
            due("17 above", x.store(s, 100), -1);
            due("17 below", x.store(s, -1), -1);
            due("18 above", x.price(s, 10), -1);
            due("18 below", x.price(s, 0), -1);
            same("17, 18", x, before);
            x.store(s, 10 + s);
            x.price(s, 2 + s);
        }
        for (int s = 0; s < 4; s++) {
            due("9 each its own", x.stock(s, 0), 10 + s);
            due("9 each its own", x.stock(s, 1), 2 + s);
        }
        due("19 the most", x.fund(999), 0);
        due("19 above", x.fund(1000), -1);
        due("19 below", x.fund(-1), -1);
        due("19 the least", x.fund(0), 999);
        due("6 PURSE", x.rule(3), 0);
    }

    private static void bite() {
        SeasonYard x = Checks.yard("rule 0 1 1;rule 1 2 2;rule 2 3 3;rule 3 4 4;rule 0 4 1;");
        int[] was = {1, 2, 3, 4, 1};
        for (int k = 0; k < 5; k++) {
            due("20 the least", x.bite(k, 1), was[k]);
            due("20 the most", x.bite(k, 4), 1);
            due("20 above", x.bite(k, 5), -1);
            due("20 below", x.bite(k, 0), -1);
            due("10 n", x.law(k, 2), 4);
            due("10 a stays", x.law(k, 0), k == 4 ? 0 : k);
            due("10 b stays", x.law(k, 1), Math.min(k + 1, 4));
        }
        due("20 the 6th", x.bite(5, 1), -1);
        due("20 of none", new SeasonYard().bite(0, 1), -1);
    }

    /** From how many NEXT to a cell on a rule fits: in the middle, at a side, in a corner; each less one behind a wall. */
    private static void ruleFitsFrom() {
        int[] cells = {4, 1, 0};
        int[][] next = {{1, 3, 5, 7}, {0, 2, 4}, {1, 3}};
        int[][] edges = {{3, 6, 8, 9}, {0, 2, 3}, {0, 1}};
        for (int i = 0; i < cells.length; i++) {
            for (int bits = 0; bits < 1 << next[i].length; bits++) {
                for (int n = 1; n <= 4; n++) {
                    SeasonYard x = Checks.yard("size 3 3;rule 2 0 " + n + ";");
                    x.store(0, 9);
                    x.store(2, 99);
                    x.fund(99);
                    x.lay(cells[i], 0, 5);
                    for (int k = 0; k < next[i].length; k++) {
                        if ((bits >> k & 1) != 0) {
                            x.lay(next[i][k], 2, 5);
                        }
                    }
                    boolean fits = Integer.bitCount(bits) >= n;
                    due("23 by " + Integer.bitCount(bits) + " of " + n, x.spreads(), fits ? 1 << cells[i] : 0);
                    due("21 by " + Integer.bitCount(bits) + " of " + n, x.ahead(cells[i], 1, 0), fits ? 2 : 0);
                    x.wall(edges[i][0], true);
                    fits = Integer.bitCount(bits & -2) >= n;
                    due("23 behind a WALL", x.spreads(), fits ? 1 << cells[i] : 0);
                }
            }
        }
    }

    private static void ruleOverBare() {
        SeasonYard x = Checks.yard("lay 0 1 2;sow 1 bean;sow 3 bean;rule 1 4 1;");
        due("21 nothing is ripe", x.week(1), 0);
        due("21 it came for its one WEEK", x.cell(1, 3), 1);
        due("21 its one YARD is gone", x.cell(1, 0), 4);
        due("21 not NEXT to it", x.cell(3, 3), 0);
        x.week(1);
        due("21 it waits by the one wanted before", x.cell(1, 3), 1);
        due("21 BARE now", x.cell(0, 0), 4);
        x.week(1);
        due("21 nothing came, it is SPOILED", x.cell(1, 2), -4);
        due("6 SPOILED", x.rule(5), 1);
        due("21 at STAGE 0 it waits on BARE", x.ahead(3, 60, 2), 4);
        x = Checks.yard("lay 0 1 1;lay 1 2 1;rule 1 2 1;");
        x.week(1);
        due("21 the one YARD that stayed is gone", x.cell(1, 0), 4);
    }

    private static void yardsRunOut() {
        for (int y = 1; y <= 9; y++) {
            SeasonYard x = Checks.yard("lay 0 2 " + y + ";");
            x.week(y - 1);
            due("21 the last YARD", x.cell(0, 1), 1);
            due("21 the last YARD", x.cell(0, 0), 2);
            x.week(1);
            due("21 no YARD", x.cell(0, 1), 0);
            due("21 no YARD", x.cell(0, 0), 4);
            x.week(1);
            due("21 never below 0", x.cell(0, 1), 0);
        }
    }

    /** An object in a WEEK from 900 on. */
    private static SeasonYard inWeek(int week) {
        SeasonYard x = new SeasonYard();
        for (int i = 0; i < 15; i++) {
            x.week(60);
        }
        x.week(Math.min(60, week - 900));
        x.week(Math.max(0, week - 960));
        due("6 WEEK", x.rule(4), week);
        return x;
    }

    private static void weekAtTheLast() {
        for (int week = 939; week <= 999; week++) {
            SeasonYard x = inWeek(week);
            x.store(2, 9);
            x.fund(9);
            x.lay(0, 2, 9);
            x.sow(0, 3);
            String before = Checks.stateOf(x);
            if (1000 - week <= 60) {
                due("21 WEEK would be 1000", x.week(1000 - week), -3);
                due("21 WEEK would be far more", x.week(60), -3);
                due("21 BAD ahead of FULL", x.week(61), -1);
                due("21 BAD ahead of FULL", x.week(-1), -1);
                same("21 FULL", x, before);
            }
            int left = Math.min(60, 999 - week);
            due("21 to the last", x.week(left), left >= 2 ? 1 : 0);
            due("6 WEEK", x.rule(4), week + left);
        }
        SeasonYard x = inWeek(999);
        due("21 no WEEK is never FULL", x.week(0), 0);
        due("21 one is FULL", x.week(1), -3);
    }

    private static void weekRefused() {
        SeasonYard x = Checks.yard("lay 0 2 9;sow 0 rose;");
        String before = Checks.stateOf(x);
        due("21 below", x.week(-1), -1);
        due("21 above", x.week(61), -1);
        due("21 none", x.week(0), 0);
        same("21", x, before);
        due("21 the most", x.week(60), 1);
        due("6 WEEK", x.rule(4), 60);
    }

    private static void ahead() {
        SeasonYard x = inWeek(999);
        x.store(2, 9);
        x.fund(9);
        x.lay(3, 2, 9);
        x.sow(3, 3);
        String before = Checks.stateOf(x);
        due("22 now", x.ahead(3, 0, 1), 9);
        due("22 beyond the last WEEK", x.ahead(3, 8, 1), 1);
        due("22 beyond the last WEEK", x.ahead(3, 9, 0), 4);
        due("22 ripe", x.ahead(3, 1, 2), 3);
        due("22 ripe", x.ahead(3, 2, 2), -4);
        due("22 the most", x.ahead(3, 60, 0), 4);
        due("24 beyond the last WEEK", x.comes(60, 0), 1);
        due("25 beyond the last WEEK", x.when(3), 2);
        due("26 beyond the last WEEK", x.again(), -4);
        same("22", x, before);
    }

    private static void spreads() {
        SeasonYard x = Checks.yard("size 4 4;rule 3 4 1;rule 3 0 1;");
        due("23 nothing lies", x.spreads(), 0);
        x.store(3, 99);
        x.store(0, 99);
        x.fund(99);
        for (int c = 0; c < 16; c++) {
            x.lay(c, (c + c / 4) % 2 == 0 ? 3 : 0, 1);
        }
        due("23 every other one", x.spreads(), 0x5A5A);
        for (int c = 0; c < 16; c++) {
            x.lay(c, 3, 1);
        }
        due("23 a lies everywhere", x.spreads(), 0);
        x.bare(15);
        due("23 the last", x.spreads(), 1 << 15);
        x.bare(0);
        due("23 the first and the last", x.spreads(), 1 << 15 | 1);
    }

    private static void comes() {
        SeasonYard x = Checks.yard("lay 0 2 9;sow 0 rose;lay 1 1 1;sow 1 bean;");
        due("24 in none", x.comes(0, 0), 0);
        due("24 in none", x.comes(0, 1), 0);
        due("24 not yet", x.comes(1, 0), 0);
        due("24 just so", x.comes(2, 0), 1);
        due("24 not yet", x.comes(1, 1), 0);
        due("24 just so", x.comes(2, 1), 1);
        due("24 the most", x.comes(60, 0), 1);
        due("24 the most", x.comes(60, 1), 1);
        x.week(2);
        due("24 from now on", x.comes(60, 0), 0);
        due("24 from now on", x.comes(60, 1), 0);
    }

    /** Summer goes one cell a WEEK along a path between walls: the farthest that spring still waits for it. */
    private static void when() {
        String text = "size 4 4;wall 1;wall 3;wall 5;wall 11;wall 13;wall 15;rule 2 1 1;lay 0 2 9;";
        int[] path = {0, 1, 2, 3, 7, 6, 5, 4, 8, 9, 10, 11};
        for (int i = 1; i < path.length; i++) {
            SeasonYard x = Checks.yard(text);
            x.store(1, 99);
            x.fund(99);
            for (int k = 1; k < path.length; k++) {
                x.lay(path[k], 1, 9);
            }
            x.sow(path[i], 4);
            due("25 the " + i + "th of the path", x.when(path[i]), i == 1 ? -4 : i <= 9 ? i : -4);
        }
        SeasonYard x = Checks.yard("lay 0 2 9;sow 0 rose;");
        x.week(1);
        due("25 the first WEEK", x.when(0), 1);
        x.week(1);
        due("25 STATE behind it", x.when(0), -2);
        due("25 BAD", x.when(4), -1);
        SeasonYard y = Checks.yard("size 4 4;");
        for (int c = 0; c < 16; c++) {
            y.store(2, 9);
            y.fund(9);
            y.lay(c, 2, 2);
            y.sow(c, 3);
        }
        for (int c = 0; c < 16; c++) {
            due("25 all in one WEEK", y.when(c), 2);
        }
        x.sow(0, 0);
        due("25 waits for ever", x.when(0), -4);
    }

    private static void again() {
        SeasonYard x = new SeasonYard();
        x.sow(0, 0);
        due("26 nothing lies, CROPS aside", x.again(), 1);
        x.store(0, 1);
        x.fund(1);
        x.lay(0, 0, 1);
        due("26 one YARD", x.again(), -4);
        x.week(1);
        due("26 it is gone", x.again(), 1);
        due("26 never 0", Checks.yard("rule 0 4 1;").again(), 1);
    }
}
