/** Promises 21 to 26: weeks. */
public final class WeeksTest {
    public static void main(String[] args) {
        yards();
        crops();
        rules();
        walls();
        allAtOnce();
        weekRefused();
        ahead();
        spreads();
        comes();
        when();
        again();
        Checks.finish("WeeksTest");
    }

    private static void due(String call, long got, long want) {
        Checks.due(call, got, want);
    }

    private static void yards() {
        SeasonYard x = Checks.yard("lay 0 3 2;lay 1 0 1;");
        due("21 no week", x.week(0), 0);
        due("21 WEEK", x.rule(4), 0);
        due("21 week", x.week(1), 0);
        due("21 WEEK", x.rule(4), 1);
        due("21 YARDS", x.cell(0, 1), 1);
        due("21 SEASON", x.cell(0, 0), 3);
        due("21 BARE", x.cell(1, 0), 4);
        due("21 BARE", x.cell(1, 1), 0);
        x.week(1);
        due("21 BARE", x.cell(0, 0), 4);
    }

    /** Lays a season of one yard each week in cell 0: the stages by weeks as figures, 8 ripe, 9 spoiled. */
    private static String stages(String crop, int... seasons) {
        SeasonYard x = Checks.yard("sow 0 " + crop + ";");
        StringBuilder all = new StringBuilder();
        for (int s : seasons) {
            x.store(Math.min(s, 3), 9);
            x.fund(9);
            if (s < 4) {
                x.lay(0, s, 1);
            }
            int ripe = x.week(1);
            all.append(ripe == 1 ? 8 : x.rule(5) == 1 ? 9 : x.cell(0, 3));
            if (x.cell(0, 2) == -4) {
                due("21 the STAGE is gone", x.cell(0, 3), 0);
                break;
            }
        }
        return all.toString();
    }

    private static void stagesDue(String due, String crop, int... seasons) {
        String got = stages(crop, seasons);
        due("21 " + crop + " " + got + " for " + due, got.equals(due) ? 1 : 0, 1);
    }

    private static void crops() {
        stagesDue("128", "wheat", 1, 2, 3);
        stagesDue("128", "rye", 3, 0, 1);
        stagesDue("128", "moss", 0, 0, 0);
        stagesDue("18", "rose", 2, 2);
        stagesDue("18", "bean", 1, 2);
        stagesDue("00011228", "wheat", 4, 0, 3, 1, 1, 2, 2, 3);
        stagesDue("19", "wheat", 1, 4);
        stagesDue("19", "wheat", 1, 3);
        stagesDue("129", "wheat", 1, 2, 1);
        stagesDue("129", "rye", 3, 0, 3);
        stagesDue("129", "moss", 0, 0, 4);
        stagesDue("019", "rose", 1, 2, 1);
        stagesDue("1119", "bean", 1, 1, 1, 0);
    }

    private static void rules() {
        SeasonYard x = Checks.yard("size 3 3;lay 4 2 3;rule 2 4 1;");
        x.week(1);
        due("21 a BARE one has one yard, that is gone", x.cell(1, 0), 4);
        due("21 the one that spreads", x.cell(4, 1), 2);
        x = Checks.yard("size 3 3;lay 4 2 3;lay 1 0 5;lay 0 0 5;rule 2 0 1;");
        x.week(1);
        due("21 a comes", x.cell(1, 0), 2);
        due("21 YARDS stay", x.cell(1, 1), 4);
        due("21 not over two", x.cell(0, 0), 0);
        x.week(1);
        due("21 over two in two", x.cell(0, 0), 2);
        x = Checks.yard("size 3 3;lay 1 2 9;lay 3 2 9;lay 5 3 9;lay 4 0 9;rule 2 0 3;rule 3 0 1;rule 2 0 2;");
        x.week(1);
        due("21 the first that fits", x.cell(4, 0), 3);
        x = Checks.yard("size 3 3;lay 1 2 9;lay 3 2 9;lay 5 2 9;lay 7 2 9;lay 4 0 9;rule 2 0 4;");
        x.week(1);
        due("21 four", x.cell(4, 0), 2);
        x = Checks.yard("size 3 2;lay 0 2 9;lay 4 2 9;lay 2 0 9;lay 5 0 9;sow 5 rose;lay 3 0 9;sow 3 rose;rule 2 0 2;");
        due("21 not to the next row", x.ahead(2, 1, 0), 0);
        due("21 from the west alone", x.ahead(5, 1, 0), 0);
        due("21 from north and east", x.ahead(3, 1, 0), 2);
        due("21 the crop by what lies then", x.ahead(3, 1, 3), 1);
        due("21 by a spread BARE cell", Checks.yard("lay 0 2 9;sow 1 rose;rule 2 4 1;").week(2), 1);
    }

    private static void walls() {
        String text = "size 3 3;lay 4 2 9;lay 1 0 9;lay 3 0 9;lay 5 0 9;lay 7 0 9;rule 2 0 1;";
        int[] edges = {3, 6, 8, 9};
        int[] cells = {1, 3, 5, 7};
        for (int i = 0; i < 4; i++) {
            SeasonYard x = Checks.yard(text);
            x.wall(edges[i], true);
            x.week(1);
            for (int k = 0; k < 4; k++) {
                due("21 behind a wall", x.cell(cells[k], 0), k == i ? 0 : 2);
            }
        }
    }

    private static void allAtOnce() {
        SeasonYard x = Checks.yard("size 4 2;lay 0 1 9;lay 1 2 9;lay 2 1 9;lay 3 2 9;rule 1 2 1;rule 2 1 1;");
        x.week(1);
        for (int c = 0; c < 4; c++) {
            due("21 all at once", x.cell(c, 0), c % 2 == 0 ? 2 : 1);
        }
    }

    private static void weekRefused() {
        SeasonYard x = Checks.yard("lay 0 2 9;lay 1 2 9;sow 0 rose;sow 1 rose;sow 2 bean;own 0 1;");
        due("21 BAD", x.week(-1), -1);
        due("21 BAD", x.week(61), -1);
        due("21 ripe", x.week(60), 2);
        for (int i = 0; i < 15; i++) {
            x.week(60);
        }
        due("21 WEEK", x.rule(4), 960);
        due("21 FULL", x.week(40), -3);
        due("21 BAD ahead of FULL", x.week(61), -1);
        due("21 to the last", x.week(39), 0);
        due("21 WEEK", x.rule(4), 999);
        due("21 FULL", x.week(1), -3);
        due("21 none is not FULL", x.week(0), 0);
        due("22 ahead is not FULL", x.ahead(2, 60, 2), 4);
        due("24 comes is not FULL", x.comes(60, 0), 0);
    }

    private static void ahead() {
        SeasonYard x = Checks.yard("lay 0 1 2;sow 0 wheat;own 0 2;");
        String state = Checks.stateOf(x);
        int[] now = {1, 2, 0, 0, 2};
        int[] one = {1, 1, 0, 1, 2};
        int[] two = {4, 0, 0, 1, 2};
        int[] three = {4, 0, -4, 0, 2};
        for (int what = 0; what < 5; what++) {
            due("22 now", x.ahead(0, 0, what), now[what]);
            due("22 one", x.ahead(0, 1, what), one[what]);
            due("22 two", x.ahead(0, 2, what), two[what]);
            due("22 three", x.ahead(0, 3, what), three[what]);
            due("22 sixty", x.ahead(0, 60, what), three[what]);
        }
        due("22 BAD", x.ahead(4, 1, 0), -1);
        due("22 BAD", x.ahead(-1, 1, 0), -1);
        due("22 BAD", x.ahead(0, -1, 0), -1);
        due("22 BAD", x.ahead(0, 61, 0), -1);
        due("22 BAD", x.ahead(0, 1, 5), -1);
        due("22 BAD", x.ahead(0, 1, -1), -1);
        due("22 changes nothing", Checks.stateOf(x).equals(state) ? 1 : 0, 1);
    }

    private static void spreads() {
        SeasonYard x = Checks.yard("size 3 3;lay 4 2 3;lay 8 0 1;rule 2 4 1;rule 0 2 1;rule 0 4 2;");
        due("23 spreads", x.spreads(), 1 << 1 | 1 << 3 | 1 << 5 | 1 << 7);
        x.wall(9, true);
        due("23 a wall", x.spreads(), 1 << 1 | 1 << 3 | 1 << 5);
        due("23 no rule", Checks.yard("lay 0 1 1;").spreads(), 0);
        due("23 now alone", Checks.yard("size 4 4;lay 15 1 1;rule 1 4 1;").spreads(), 1 << 11 | 1 << 14);
    }

    private static void comes() {
        SeasonYard x = Checks.yard("lay 0 2 9;lay 1 1 1;lay 2 2 9;sow 0 rose;sow 1 bean;sow 2 rose;sow 3 rye;");
        x.week(1);
        String state = Checks.stateOf(x);
        due("24 none", x.comes(0, 0), 0);
        due("24 RIPE", x.comes(1, 0), 2);
        due("24 SPOILED", x.comes(1, 1), 1);
        due("24 changes nothing", Checks.stateOf(x).equals(state) ? 1 : 0, 1);
        due("24 from now on", x.week(1), 2);
        due("24 from now on", x.comes(60, 0), 0);
        due("24 from now on", x.comes(60, 1), 0);
        due("24 BAD", x.comes(-1, 0), -1);
        due("24 BAD", x.comes(61, 0), -1);
        due("24 BAD", x.comes(1, 2), -1);
        due("24 BAD", x.comes(1, -1), -1);
    }

    private static void when() {
        SeasonYard x = Checks.yard("lay 0 2 9;lay 1 1 1;lay 2 0 9;sow 0 rose;sow 1 bean;sow 2 moss;sow 3 rye;");
        due("25 rose", x.when(0), 2);
        due("25 spoiled", x.when(1), -4);
        due("25 moss", x.when(2), 3);
        due("25 waits", x.when(3), -4);
        x.week(1);
        due("25 from now on", x.when(2), 2);
        due("25 changes nothing", x.rule(4), 1);
        x.sow(0, -4);
        due("25 STATE", x.when(0), -2);
        due("25 BAD", x.when(4), -1);
        due("25 BAD", x.when(-1), -1);
        due("25 another's is ripe in that week", Checks.yard("lay 0 2 9;lay 1 2 1;sow 0 rose;sow 1 rose;").when(1), -4);
    }

    private static void again() {
        SeasonYard x = Checks.yard("sow 0 rose;");
        due("26 all BARE", x.again(), 1);
        x = Checks.yard("lay 0 2 9;");
        due("26 fewer YARDS", x.again(), -4);
        x.bare(0);
        due("26 all BARE", x.again(), 1);
        due("26 a rule", Checks.yard("lay 0 2 9;lay 1 3 9;rule 2 3 1;rule 3 2 1;").again(), -4);
    }
}
