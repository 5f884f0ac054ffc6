/** Promises 27 to 31: plans, the best laying, the best wall, blame, luck. */
public final class BestTest {
    public static void main(String[] args) {
        plan();
        planOfWhatLies();
        planRefused();
        most();
        fence();
        blame();
        luck();
        luckRefused();
        Checks.finish("BestTest");
    }

    private static void due(String call, long got, long want) {
        Checks.due(call, got, want);
    }

    private static void unchanged(SeasonYard x, String before, String call) {
        due(call + " changes nothing", Checks.stateOf(x).equals(before) ? 1 : 0, 1);
    }

    private static void planDue(SeasonYard x, int n, int costs, int... laid) {
        due("27 costs", x.plan(0, n, 0), costs);
        for (int k = 0; k < n; k++) {
            due("27 laid ahead of " + k + " of " + n, x.plan(0, n, 10 + k), laid[k]);
        }
    }

    private static void plan() {
        SeasonYard x = Checks.yard("sow 0 wheat;");
        due("27 none", x.plan(0, 2, 0), -4);
        due("27 none", x.plan(0, 2, 10), -4);
        planDue(x, 3, 3, 21, 31, 41);
        planDue(x, 4, 3, 0, 21, 31, 41);
        planDue(x, 6, 3, 0, 0, 0, 21, 31, 41);
        x = Checks.yard("sow 0 moss;stock 0 0 5;");
        planDue(x, 3, 15, 11, 11, 11);
        x = Checks.yard("sow 0 rye;stock 0 7 9;stock 1 0 2;rule 0 4 1;lay 1 0 9;");
        String state = Checks.stateOf(x);
        planDue(x, 3, 12, 41, 11, 21);
        unchanged(x, state, "27");
    }

    private static void planOfWhatLies() {
        planDue(Checks.yard("sow 0 rose;lay 0 2 2;"), 2, 0, 0, 0);
        planDue(Checks.yard("sow 0 rose;lay 0 2 1;"), 2, 1, 0, 31);
        planDue(Checks.yard("sow 0 rose;lay 0 2 1;"), 3, 1, 0, 31, 0);
        planDue(Checks.yard("sow 0 bean;lay 0 1 9;stock 2 0 9;"), 2, 9, 0, 31);
        planDue(Checks.yard("sow 0 bean;lay 0 1 9;stock 2 0 9;"), 6, 9, 0, 0, 0, 0, 0, 31);
        planDue(Checks.yard("sow 0 rose;lay 0 3 9;lay 1 3 9;lay 2 3 9;rule 3 2 1;"), 2, 2, 31, 31);
        SeasonYard x = Checks.yard("sow 0 wheat;lay 0 1 1;");
        x.week(1);
        due("27 none", x.plan(0, 1, 0), -4);
        planDue(x, 2, 2, 31, 41);
        planDue(x, 3, 2, 31, 41, 0);
        x = Checks.yard("sow 0 wheat;lay 0 1 2;");
        x.week(1);
        planDue(x, 3, 2, 0, 31, 41);
        x = Checks.yard("sow 0 rye;lay 0 0 9;");
        planDue(x, 3, 3, 41, 11, 21);
    }

    private static void planRefused() {
        SeasonYard x = Checks.yard("sow 0 rose;");
        due("27 STATE", x.plan(1, 2, 0), -2);
        due("27 BAD ahead of STATE", x.plan(1, 0, 0), -1);
        due("27 cell", x.plan(4, 2, 0), -1);
        due("27 cell", x.plan(-1, 2, 0), -1);
        due("27 n", x.plan(0, 0, 0), -1);
        due("27 n", x.plan(0, 7, 0), -1);
        due("27 what", x.plan(0, 2, -1), -1);
        due("27 what", x.plan(0, 2, 1), -1);
        due("27 what", x.plan(0, 2, 9), -1);
        due("27 k no less than n", x.plan(0, 2, 12), -1);
        due("27 k", x.plan(0, 2, 11), 31);
    }

    private static void most() {
        SeasonYard x = Checks.yard("sow 0 rose;sow 1 rose;sow 3 rose;rule 2 4 1;");
        String state = Checks.stateOf(x);
        due("28 none is ripe", x.most(1, 0), 0);
        due("28 none is ripe", x.most(1, 1), 0);
        due("28 laying", x.most(2, 0), 12);
        due("28 ripe", x.most(2, 1), 3);
        unchanged(x, state, "28");
        x = Checks.yard("size 4 4;sow 15 moss;lay 0 2 9;sow 0 rose;");
        due("28 not over the ripe one", x.most(12, 0), 150);
        due("28 both", x.most(12, 1), 2);
        x = Checks.yard("sow 2 moss;lay 2 0 3;");
        due("28 the least", x.most(3, 0), 0);
        x = Checks.yard("lay 0 0 2;sow 0 moss;");
        x.week(1);
        due("28 three yards in place", x.most(2, 0), 0);
        due("28 one is ripe", x.most(2, 1), 1);
        due("28 four are too many for three", Checks.yard("sow 0 wheat;").most(12, 1), 0);
        due("28 BAD", x.most(0, 0), -1);
        due("28 BAD", x.most(13, 0), -1);
        due("28 BAD", x.most(1, 2), -1);
        due("28 BAD", x.most(1, -1), -1);
    }

    private static final String CREEPING = "size 4 2;lay 0 2 9;lay 1 0 9;lay 2 0 9;sow 2 moss;rule 2 0 1;";

    private static void fence() {
        SeasonYard x = Checks.yard(CREEPING + "sow 7 bean;lay 7 1 1;");
        String state = Checks.stateOf(x);
        due("29 none is spoiled", x.fence(1, 0), -4);
        due("29 none is spoiled", x.fence(1, 1), -4);
        due("29 edge", x.fence(2, 0), 0);
        due("29 spoiled", x.fence(2, 1), 1);
        unchanged(x, state, "29");
        x.wall(2, true);
        due("29 not fewer", x.fence(12, 0), -4);
        due("29 not fewer", x.fence(12, 1), -4);
        x = Checks.yard("size 4 2;lay 0 2 9;lay 5 2 9;lay 1 0 9;lay 2 0 9;sow 2 moss;rule 2 0 1;");
        due("29 the wall that holds both", x.fence(2, 0), 2);
        due("29 none then", x.fence(2, 1), 0);
        due("29 BAD", x.fence(0, 0), -1);
        due("29 BAD", x.fence(13, 0), -1);
        due("29 BAD", x.fence(1, 2), -1);
        due("29 BAD", x.fence(1, -1), -1);
    }

    private static void blame() {
        SeasonYard x = Checks.yard(CREEPING + "lay 6 3 9;");
        String state = Checks.stateOf(x);
        due("30 not yet", x.blame(2, 1), 0);
        due("30 both ahead of it", x.blame(2, 2), 3);
        due("30 ripe or spoiled it is gone", x.blame(2, 3), 0);
        unchanged(x, state, "30");
        due("30 STATE", x.blame(0, 2), -2);
        due("30 BAD", x.blame(8, 2), -1);
        due("30 BAD", x.blame(-1, 2), -1);
        due("30 BAD ahead of STATE", x.blame(0, 0), -1);
        due("30 BAD", x.blame(2, 13), -1);
        due("30 its STAGE alone", Checks.yard("lay 0 2 9;sow 1 rose;rule 2 4 1;").blame(1, 1), 1);
    }

    private static void luckDue(String text, int v, int n, long good, long all) {
        SeasonYard x = Checks.yard(text);
        due("31 " + text + " " + v + " " + n, x.luck(0, v, n, 0), good);
        due("31 " + text + " " + v + " " + n, x.luck(0, v, n, 1), all);
    }

    private static void luck() {
        luckDue("lay 0 2 2;sow 0 rose;", 5, 2, 1, 2);
        luckDue("lay 0 2 2;sow 0 rose;", 0, 2, 1, 1);
        luckDue("lay 0 2 2;sow 0 rose;", 10, 2, 0, 1);
        luckDue("lay 0 2 2;sow 0 rose;", 3, 8, 7, 10);
        luckDue("lay 0 2 2;sow 0 rose;", 3, 1, 0, 1);
        luckDue("lay 0 2 3;sow 0 rose;", 10, 8, 1, 1);
        luckDue("lay 0 2 1;sow 0 rose;", 0, 8, 0, 1);
        luckDue("lay 0 0 4;sow 0 moss;", 3, 3, 91, 100);
        luckDue("lay 0 0 4;sow 0 moss;", 2, 8, 24, 25);
        luckDue("lay 0 0 3;sow 0 moss;", 5, 3, 1, 4);
        luckDue("lay 0 0 9;sow 0 moss;", 9, 2, 0, 1);
        luckDue("sow 0 moss;", 9, 8, 0, 1);
        luckDue("lay 1 2 9;lay 0 0 9;sow 0 moss;rule 2 0 1;", 4, 8, 1, 1);
        SeasonYard x = Checks.yard("lay 0 0 3;sow 0 moss;");
        x.week(1);
        String state = Checks.stateOf(x);
        due("31 from now on", x.luck(0, 4, 2, 0), 3);
        due("31 from now on", x.luck(0, 4, 2, 1), 5);
        unchanged(x, state, "31");
    }

    private static void luckRefused() {
        SeasonYard x = Checks.yard("lay 0 2 2;sow 0 rose;");
        due("31 STATE", x.luck(1, 5, 2, 0), -2);
        due("31 BAD ahead of STATE", x.luck(1, 11, 2, 0), -1);
        due("31 BAD", x.luck(4, 5, 2, 0), -1);
        due("31 BAD", x.luck(-1, 5, 2, 0), -1);
        due("31 BAD", x.luck(0, -1, 2, 0), -1);
        due("31 BAD", x.luck(0, 5, 0, 0), -1);
        due("31 BAD", x.luck(0, 5, 9, 0), -1);
        due("31 BAD", x.luck(0, 5, 2, 2), -1);
        due("31 BAD", x.luck(0, 5, 2, -1), -1);
    }
}
