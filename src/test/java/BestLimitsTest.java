/** Promises 27 to 31 and 37: the fewest and the most weeks, none that comes, several alike, what is never changed. */
public final class BestLimitsTest {
    private static final String[] CROPS = {"wheat", "rye", "moss", "rose", "bean"};
    private static final int[][] WANTED = {{1, 2, 3}, {3, 0, 1}, {0, 0, 0}, {2, 2}, {1, 2}};

    public static void main(String[] args) {
        planInJustSoManyWeeks();
        planLaidLate();
        planOfLaidYards();
        planAlike();
        planOfLastStage();
        planAsideOfStockAndRules();
        planRefused();
        mostAtTheBounds();
        mostAlike();
        mostLaysThreeYards();
        mostLaysASeason();
        fenceAtTheBounds();
        blameAtTheBounds();
        blameRefused();
        luckSure();
        luckBetween();
        luckRefused();
        driftWraps();
        driftAsideOfAll();
        Checks.finish("BestLimitsTest");
    }

    private static void due(String call, long got, long want) {
        Checks.due(call, got, want);
    }

    private static void same(String call, SeasonYard x, String before) {
        due(call + " changes nothing", Checks.stateOf(x).equals(before) ? 1 : 0, 1);
    }

    private static void planDue(String call, SeasonYard x, int c, int costs, int... laid) {
        due("27 " + call + " costs", x.plan(c, laid.length, 0), costs);
        for (int k = 0; k < laid.length; k++) {
            due("27 " + call + " ahead of " + k, x.plan(c, laid.length, 10 + k), laid[k]);
        }
        due("27 " + call + " no WEEK n", x.plan(c, laid.length, 10 + laid.length), -1);
    }

    private static void planInJustSoManyWeeks() {
        for (int k = 0; k < 5; k++) {
            SeasonYard x = Checks.yard("sow 3 " + CROPS[k] + ";");
            for (int n = 1; n <= 6; n++) {
                int wants = WANTED[k].length;
                if (n < wants) {
                    due("27 too few WEEKS", x.plan(3, n, 0), -4);
                    for (int i = 0; i < n; i++) {
                        due("27 too few WEEKS", x.plan(3, n, 10 + i), -4);
                    }
                } else {
                    // Of several alike the first lays nothing as long as it can.
                    int[] laid = new int[n];
                    for (int i = 0; i < wants; i++) {
                        laid[n - wants + i] = 10 * (WANTED[k][i] + 1) + 1;
                    }
                    planDue(CROPS[k], x, 3, wants, laid);
                }
            }
        }
    }

    private static void planLaidLate() {
        planDue("all lies", Checks.yard("sow 0 moss;lay 0 0 9;"), 0, 0, 0, 0, 0, 0, 0, 0);
        planDue("all lies", Checks.yard("sow 0 moss;lay 0 0 3;"), 0, 0, 0, 0, 0);
        planDue("one is wanting", Checks.yard("sow 0 moss;lay 0 0 2;"), 0, 1, 0, 0, 11);
        planDue("ripe, nothing behind it", Checks.yard("sow 0 moss;lay 0 0 2;"), 0, 1, 0, 0, 11, 0, 0, 0);
        planDue("the last lasts", Checks.yard("sow 0 bean;lay 0 1 4;"), 0, 1, 0, 0, 0, 0, 31);
        planDue("the last is gone", Checks.yard("sow 0 bean;lay 0 1 4;"), 0, 1, 0, 0, 0, 0, 31, 0);
        planDue("none lasts so long", Checks.yard("sow 0 bean;lay 0 1 9;"), 0, 1, 0, 0, 0, 0, 0, 31);
    }

    /** Many cheap YARDS at once, or few dear ones: what costs less, what comes first. */
    private static void planOfLaidYards() {
        planDue("each alone", Checks.yard("sow 0 rose;"), 0, 2, 31, 31);
        planDue("each alone, as late as may be", Checks.yard("sow 0 rose;"), 0, 2, 0, 31, 31);
        planDue("the dearest", Checks.yard("sow 0 rose;stock 2 0 9;"), 0, 18, 31, 31);
        planDue("the dearest three", Checks.yard("sow 0 moss;stock 0 0 9;"), 0, 27, 0, 0, 0, 11, 11, 11);
        planDue("one lies", Checks.yard("sow 0 rose;lay 0 2 1;stock 2 0 9;"), 0, 9, 0, 31);
    }

    private static void planAlike() {
        planDue("spring in place of the summer", Checks.yard("sow 0 bean;lay 0 2 9;"), 0, 2, 21, 31);
        planDue("as late as may be", Checks.yard("sow 0 bean;lay 0 2 9;"), 0, 2, 0, 0, 0, 0, 21, 31);
    }

    private static void planOfLastStage() {
        SeasonYard x = Checks.yard("sow 0 wheat;stock 1 2 1;stock 2 1 1;purse 9;");
        x.lay(0, 1, 1);
        x.week(1);
        x.lay(0, 2, 1);
        x.week(1);
        due("7 STAGE", x.cell(0, 3), 2);
        planDue("the last is wanting", x, 0, 1, 41);
        planDue("at once, else it is SPOILED", x, 0, 1, 41, 0, 0, 0, 0, 0);
    }

    private static void planAsideOfStockAndRules() {
        SeasonYard x = Checks.yard("sow 0 rose;lay 1 0 9;lay 2 0 9;rule 0 4 1;rule 0 2 1;");
        String before = Checks.stateOf(x);
        planDue("no STOCK, no PURSE, whatever fits", x, 0, 2, 31, 31);
        same("27", x, before);
    }

    private static void planRefused() {
        SeasonYard x = Checks.yard("sow 0 rose;");
        for (int n = 1; n <= 6; n++) {
            due("27 what", x.plan(0, n, 9), -1);
            due("27 what", x.plan(0, n, 1), -1);
            due("27 what", x.plan(0, n, -1), -1);
            due("27 k is n", x.plan(0, n, 10 + n), -1);
            due("27 k is n - 1", x.plan(0, n, 9 + n), n == 1 ? -4 : 31);
            due("27 STATE", x.plan(1, n, 0), -2);
            due("27 STATE", x.plan(1, n, 9 + n), -2);
            due("27 BAD ahead of STATE", x.plan(1, n, 10 + n), -1);
        }
        due("27 no WEEKS", x.plan(0, 0, 0), -1);
        due("27 no WEEKS", x.plan(0, 0, 10), -1);
        due("27 too many", x.plan(0, 7, 0), -1);
        due("27 BAD ahead of STATE", x.plan(1, 7, 0), -1);
    }

    private static void mostAtTheBounds() {
        SeasonYard x = Checks.yard("size 4 4;sow 15 moss;own 15 1;");
        String before = Checks.stateOf(x);
        due("28 not in two", x.most(2, 0), 0);
        due("28 not in two", x.most(2, 1), 0);
        due("28 in three", x.most(3, 0), 150);
        due("28 in three", x.most(3, 1), 1);
        due("28 in twelve", x.most(12, 0), 150);
        same("28", x, before);
        x = Checks.yard("size 4 4;sow 15 rye;lay 15 3 1;");
        x.week(1);
        due("28 one alone does not bring two SEASONS", x.most(12, 1), 0);
        x = Checks.yard("size 4 4;sow 15 bean;lay 15 1 1;");
        x.week(1);
        due("28 in one WEEK", x.most(1, 0), 152);
        due("28 in one WEEK", x.most(1, 1), 1);
        due("28 no STOCK, no PURSE", x.rule(3), 0);
        x = Checks.yard("sow 0 rose;lay 1 2 9;rule 2 4 1;");
        due("28 three YARDS, not two", Checks.yard("sow 0 moss;").most(12, 1), 1);
        due("28 what spreads is ripe by itself", x.most(2, 1), 1);
        due("28 the least that does not stop it", x.most(2, 0), 2);
        due("28 the last SEASON", lastSeason().most(1, 0), 33);
    }

    /** In the last cell a wheat waits for autumn. */
    private static SeasonYard lastSeason() {
        SeasonYard x = Checks.yard("sow 3 wheat;stock 1 1 1;stock 2 1 1;purse 9;");
        x.lay(3, 1, 1);
        x.week(1);
        x.lay(3, 2, 1);
        x.week(1);
        return x;
    }

    private static void mostAlike() {
        due("28 the least cell", Checks.yard("sow 1 rose;sow 2 rose;").most(2, 0), 12);
        due("28 nothing to win", new SeasonYard().most(1, 0), 0);
        due("28 nothing to win", new SeasonYard().most(12, 1), 0);
        SeasonYard x = Checks.yard("lay 0 2 9;sow 0 rose;lay 1 2 9;sow 1 rose;");
        due("28 not in a cell that is ripe", x.most(2, 0), 2);
        due("28 two", x.most(2, 1), 2);
    }

    /** Summer goes one cell a WEEK from the first on: spring laid now must last till it comes, in the third WEEK, not the fourth. */
    private static void mostLaysThreeYards() {
        String row = "size 4 4;lay 0 2 9;lay 1 1 9;lay 2 1 9;rule 2 1 1;";
        SeasonYard x = Checks.yard(row + "sow 3 bean;");
        due("28 not yet", x.most(2, 1), 0);
        due("28 the third YARD", x.most(3, 1), 1);
        due("28 the third YARD", x.most(3, 0), 31);
        x = Checks.yard(row + "lay 3 1 9;sow 7 bean;");
        due("28 no fourth YARD", x.most(12, 1), 0);
    }

    /** Bare ground would bring all three seasons; each of them laid stops the others, and so does what lies. */
    private static void mostLaysASeason() {
        String round = "size 3 3;lay 1 1 1;lay 3 2 2;lay 5 3 3;rule 1 4 1;rule 2 4 1;rule 3 4 1;sow 4 wheat;";
        SeasonYard x = Checks.yard(round);
        due("25 bare ground brings it", x.when(4), 3);
        x = Checks.yard(round + "lay 4 0 9;");
        due("28 no laying brings it", x.most(12, 1), 0);
        due("28 no laying brings it", x.most(12, 0), 0);
    }

    private static final String CREEPING = "size 4 4;lay 15 2 9;lay 14 0 9;lay 13 0 9;sow 13 moss;rule 2 0 1;";

    private static void fenceAtTheBounds() {
        SeasonYard x = Checks.yard(CREEPING);
        String before = Checks.stateOf(x);
        due("29 not in one", x.fence(1, 0), -4);
        due("29 not in one", x.fence(1, 1), -4);
        due("29 in two, the first of two", x.fence(2, 0), 26);
        due("29 in two", x.fence(2, 1), 0);
        due("29 in twelve", x.fence(12, 0), 26);
        due("29 in twelve", x.fence(12, 1), 0);
        same("29", x, before);
        x.wall(26, true);
        due("29 none is spoiled", x.fence(12, 0), -4);
        x.wall(26, false);
        x.wall(28, true);
        due("29 none is spoiled", x.fence(12, 1), -4);
        x = Checks.yard("lay 0 1 1;sow 0 bean;");
        due("29 no WALL helps", x.fence(12, 0), -4);
        due("29 no WALL helps", x.fence(12, 1), -4);
        x = Checks.yard("lay 0 1 1;sow 0 bean;wall 0;wall 1;wall 3;wall 4;");
        due("29 no EDGE without one", x.fence(12, 0), -4);
        due("29 nothing is sown", new SeasonYard().fence(1, 0), -4);
        x = Checks.yard(CREEPING + "lay 0 1 1;sow 0 bean;");
        due("29 fewer, not none", x.fence(2, 1), 1);
        due("29 fewer, not none", x.fence(2, 0), 26);
    }

    private static void blameAtTheBounds() {
        SeasonYard x = Checks.yard(CREEPING);
        String before = Checks.stateOf(x);
        due("30 not in one", x.blame(13, 1), 0);
        due("30 the last and the last but one", x.blame(13, 2), 1 << 15 | 1 << 14);
        due("30 by then it is gone in each way", x.blame(13, 3), 0);
        due("30 by then it is gone in each way", x.blame(13, 12), 0);
        same("30", x, before);
        due("30 not the cell itself", Checks.yard("lay 0 2 9;sow 0 rose;").blame(0, 1), 0);
        due("30 a BARE one is not to blame", Checks.yard("lay 0 2 9;sow 0 rose;rule 0 4 1;").blame(0, 12), 0);
        due("30 by none", Checks.yard("sow 0 rose;").blame(0, 12), 0);
        x = Checks.yard("size 3 3;lay 1 2 9;lay 3 2 9;lay 5 2 9;lay 7 2 9;sow 4 rose;rule 2 4 4;");
        due("30 each of four", x.blame(4, 1), 1 << 1 | 1 << 3 | 1 << 5 | 1 << 7);
        due("30 each of four, or that there is none", x.blame(4, 2), 1 << 1 | 1 << 3 | 1 << 5 | 1 << 7);
        x.bite(0, 3);
        due("30 of four for three each alone is none", x.blame(4, 2), 0);
        x.wall(3, true);
        due("30 each of three", x.blame(4, 2), 1 << 3 | 1 << 5 | 1 << 7);
    }

    private static void blameRefused() {
        SeasonYard x = Checks.yard("sow 0 rose;");
        due("30 STATE", x.blame(1, 1), -2);
        due("30 STATE", x.blame(3, 12), -2);
        due("30 BAD ahead of STATE", x.blame(1, 0), -1);
        due("30 BAD ahead of STATE", x.blame(1, 13), -1);
        due("30 BAD", x.blame(4, 1), -1);
        due("30 the most", x.blame(0, 12), 0);
    }

    private static void luckDue(String call, SeasonYard x, int v, int n, long good, long all) {
        due("31 " + call + " " + v + " " + n, x.luck(0, v, n, 0), good);
        due("31 " + call + " " + v + " " + n + " of", x.luck(0, v, n, 1), all);
    }

    private static void luckSure() {
        for (int y = 1; y <= 9; y++) {
            SeasonYard x = Checks.yard("sow 0 moss;lay 0 0 " + y + ";");
            for (int n = 1; n <= 8; n++) {
                luckDue("none is lost", x, 0, n, n >= 3 && y >= 3 ? 1 : 0, 1);
                luckDue("each is lost", x, 10, n, n >= 3 && y >= 5 ? 1 : 0, 1);
            }
        }
        luckDue("nothing lies", Checks.yard("sow 0 moss;"), 5, 8, 0, 1);
        luckDue("another lies", Checks.yard("sow 0 moss;lay 0 1 9;"), 5, 8, 0, 1);
        luckDue("0 YARDS at least", Checks.yard("sow 0 rose;lay 0 2 1;"), 10, 8, 0, 1);
    }

    private static void luckBetween() {
        for (int v = 1; v <= 9; v++) {
            SeasonYard x = Checks.yard("sow 0 rose;lay 0 2 2;");
            int common = v % 5 == 0 ? 5 : v % 2 == 0 ? 2 : 1;
            luckDue("too few WEEKS", x, v, 1, 0, 1);
            luckDue("the first is not lost", x, v, 2, (10 - v) / common, 10 / common);
            luckDue("the first is not lost", x, v, 8, (10 - v) / common, 10 / common);
        }
        SeasonYard x = Checks.yard("sow 0 moss;lay 0 0 4;");
        luckDue("one of two may be lost", x, 1, 8, 99, 100);
        luckDue("one of two may be lost", x, 9, 3, 19, 100);
        luckDue("none of two", Checks.yard("sow 0 moss;lay 0 0 3;"), 3, 3, 49, 100);
        luckDue("a rule that would fit", Checks.yard("sow 0 rose;lay 0 2 2;lay 1 0 9;rule 0 2 1;"), 5, 8, 1, 2);
        luckDue("a rule that would bring it", Checks.yard("sow 0 rose;lay 1 2 9;rule 2 4 1;"), 5, 8, 0, 1);
    }

    private static void luckRefused() {
        SeasonYard x = Checks.yard("sow 0 rose;lay 0 2 9;");
        String before = Checks.stateOf(x);
        due("31 STATE", x.luck(1, 0, 1, 0), -2);
        due("31 STATE", x.luck(3, 10, 8, 1), -2);
        due("31 BAD ahead of STATE", x.luck(1, -1, 1, 0), -1);
        due("31 BAD ahead of STATE", x.luck(1, 11, 1, 0), -1);
        due("31 BAD ahead of STATE", x.luck(1, 0, 9, 0), -1);
        due("31 BAD ahead of STATE", x.luck(1, 0, 0, 0), -1);
        due("31 BAD ahead of STATE", x.luck(1, 0, 1, 2), -1);
        due("31 BAD", x.luck(4, 0, 1, 0), -1);
        same("31", x, before);
    }

    /** A seed that wraps around and bits 16 to 30 of it, the sign aside, by other means: 64 bits, cut by division. */
    private static void driftWraps() {
        int[] seeds = {0, 1, -1, 2, 65535, 65536, 1 << 30, Integer.MIN_VALUE, Integer.MIN_VALUE + 1, Integer.MAX_VALUE, Integer.MAX_VALUE - 1};
        for (int wide = 2; wide <= 4; wide++) {
            for (int high = 2; high <= 4; high++) {
                StringBuilder text = new StringBuilder("size " + wide + " " + high + ";rule 2 4 1;rule 0 1 1;");
                for (int c = 0; c < Math.min(wide * high, 9); c++) {
                    text.append("sow ").append(c).append(c % 2 == 0 ? " rose;" : " bean;");
                }
                for (int seed : seeds) {
                    driftDue(text.toString(), seed, wide * high);
                }
            }
        }
    }

    private static void driftDue(String text, int seed, int cells) {
        SeasonYard x = Checks.yard(text);
        SeasonYard y = Checks.yard(text);
        String before = Checks.stateOf(x);
        long two32 = 4294967296L;
        long now = Math.floorMod((long) seed, two32);
        int ripe = 0;
        for (int n = 1; n <= 60; n++) {
            now = (now * 1103515245L + 12345L) % two32;
            int c = (int) (now / 65536 % 32768 % cells);
            now = (now * 1103515245L + 12345L) % two32;
            int s = (int) (now / 65536 % 32768 % 4);
            y.store(s, 2);
            y.fund(2);
            due("12 lay", y.lay(c, s, 2), 0);
            ripe += y.week(1);
            if (n <= 2 || n >= 59 || n % 7 == 0) {
                due("37 RIPE " + seed + " " + n, x.drift(seed, n, 0), ripe);
                due("37 SPOILED " + seed + " " + n, x.drift(seed, n, 1), y.rule(5));
            }
        }
        same("37", x, before);
    }

    private static void driftAsideOfAll() {
        SeasonYard x = Checks.yard("sow 0 rose;sow 1 rose;sow 2 rose;sow 3 rose;lay 0 2 9;lay 1 2 9;lay 2 2 9;lay 3 2 9;");
        x.week(1);
        int ripe = x.drift(7, 1, 0);
        int spoiled = x.drift(7, 1, 1);
        due("37 all but the one laid over, and it too if it is summer", ripe + spoiled, 4);
        due("37 at least three", ripe >= 3 ? 1 : 0, 1);
        due("37 nothing went", x.rule(4), 1);
        due("21 what was there is there", x.week(1), 4);
        due("37 in these alone, not ahead of them", x.drift(7, 60, 0), 0);
    }
}
