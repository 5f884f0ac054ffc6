/** Promises 32 to 36: what was seen of a crop, the rows that fit. */
public final class StubbleTest {
    public static void main(String[] args) {
        see();
        forget();
        rows();
        sure();
        sown();
        Checks.finish("StubbleTest");
    }

    private static void due(String call, long got, long want) {
        Checks.due(call, got, want);
    }

    /** An object that saw stages behind weeks: a week, its stage, the next week, .. */
    private static SeasonYard seen(int... all) {
        SeasonYard x = new SeasonYard();
        for (int i = 0; i + 1 < all.length; i += 2) {
            due("32 see", x.see(all[i], all[i + 1]), i / 2 + 1);
        }
        return x;
    }

    private static void see() {
        SeasonYard x = seen(0, 0, 4, 4, 0, 1, 0, 1);
        due("32 BAD", x.see(-1, 0), -1);
        due("32 BAD", x.see(5, 0), -1);
        due("32 BAD", x.see(0, -1), -1);
        due("32 BAD", x.see(0, 5), -1);
        due("32 see", x.see(1, 2), 5);
        due("32 see", x.see(2, 3), 6);
        due("32 FULL", x.see(0, 0), -3);
        due("32 BAD ahead of FULL", x.see(5, 0), -1);
        due("44 SEEN", x.count(0), 6);
    }

    private static void forget() {
        SeasonYard x = seen(0, 1, 1, 4);
        due("33 BAD", x.forget(-1), -1);
        due("33 BAD", x.forget(3), -1);
        due("33 all", x.forget(2), 2);
        due("34 with both", x.rows(0, 2, 0), 3);
        due("33 the first alone", x.forget(1), 2);
        due("34 with the first", x.rows(0, 2, 0), 5);
        due("34 with the first", x.rows(0, 2, 1), 5);
        due("33 none", x.forget(0), 1);
        due("34 with none", x.rows(0, 2, 0), 25);
        due("33 none", x.forget(0), 0);
    }

    private static void rows() {
        SeasonYard x = seen();
        int all = 1;
        for (int w = 1; w <= 5; w++) {
            all *= 5;
            for (int k = 0; k < 5; k++) {
                due("34 all", x.rows(k, w, 0), all);
                due("34 the first", x.rows(k, w, 1), 0);
            }
        }
        x = seen(2, 3);
        due("34 wheat", x.rows(0, 3, 0), 1);
        due("34 wheat", x.rows(0, 3, 1), 1 * 25 + 2 * 5 + 3);
        due("34 rye", x.rows(1, 3, 1), 3 * 25 + 0 * 5 + 1);
        due("34 moss", x.rows(2, 3, 1), 0);
        due("34 rose", x.rows(3, 3, 0), 9);
        due("34 rose", x.rows(3, 3, 1), 0 * 25 + 2 * 5 + 2);
        due("34 these weeks alone", x.rows(0, 2, 0), 25);
        due("34 ripe by then", x.rows(0, 5, 0), 25);
        x = seen(1, 4);
        due("34 spoiled by then", x.rows(4, 2, 0), 3);
        due("34 spoiled by then", x.rows(4, 2, 1), 1 * 5 + 0);
        due("34 spoiled by then", x.rows(4, 4, 0), 75);
        x = seen(0, 4);
        due("34 none", x.rows(0, 1, 0), 0);
        due("34 none", x.rows(0, 1, 1), -4);
        due("34 two that can not be", seen(0, 0, 0, 1).rows(0, 1, 0), 0);
        due("34 the same twice", seen(0, 0, 0, 0).rows(0, 1, 0), 4);
        due("34 BAD", x.rows(-1, 1, 0), -1);
        due("34 BAD", x.rows(5, 1, 0), -1);
        due("34 BAD", x.rows(0, 0, 0), -1);
        due("34 BAD", x.rows(0, 6, 0), -1);
        due("34 BAD", x.rows(0, 1, 2), -1);
        due("34 BAD", x.rows(0, 1, -1), -1);
    }

    private static void sure() {
        SeasonYard x = seen(0, 1, 2, 2);
        due("35 wheat", x.sure(0, 3, 0), 1);
        due("35 not one by all", x.sure(0, 3, 1), -4);
        due("35 wheat", x.sure(0, 1, 0), 1);
        due("35 rye", x.sure(1, 3, 0), 3);
        due("35 moss", x.sure(2, 3, 1), -4);
        due("35 none fits", x.sure(3, 3, 0), -4);
        x = seen(2, 3);
        due("35 wheat", x.sure(0, 3, 0), 1);
        due("35 wheat", x.sure(0, 3, 1), 2);
        due("35 wheat", x.sure(0, 4, 2), 3);
        due("35 behind it", x.sure(0, 4, 3), -4);
        due("35 rose", x.sure(3, 3, 1), 2);
        due("35 rose", x.sure(3, 3, 0), -4);
        due("35 BAD", x.sure(-1, 1, 0), -1);
        due("35 BAD", x.sure(5, 1, 0), -1);
        due("35 BAD", x.sure(0, 0, 0), -1);
        due("35 BAD", x.sure(0, 6, 0), -1);
        due("35 BAD", x.sure(0, 2, 2), -1);
        due("35 BAD", x.sure(0, 2, -1), -1);
    }

    private static void sown() {
        SeasonYard x = seen(1, 3);
        due("36 not of this week", x.sown(1), 31);
        due("36 rose, bean", x.sown(2), 24);
        x.see(0, 0);
        due("36 none", x.sown(2), 0);
        due("36 rose, bean can not wait twice", seen(4, 2).sown(5), 7);
        due("36 none", seen(0, 2).sown(1), 0);
        due("36 BAD", x.sown(0), -1);
        due("36 BAD", x.sown(6), -1);
    }
}
