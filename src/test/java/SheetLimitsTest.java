/** Promises 32 to 36 and 38 to 44: what is seen, images, sheets: none, the most, one more, what the machine finds first. */
public final class SheetLimitsTest {
    private static final int MIN = Integer.MIN_VALUE;
    private static final int MAX = Integer.MAX_VALUE;

    public static void main(String[] args) {
        seenIsFull();
        seenIsForgotten();
        rowsOfEachLength();
        rowsThatNoneFits();
        seenBehindTheRows();
        sureOfAll();
        sownOfEach();
        imageOfEach();
        imageHoldsAll();
        imageOfTheLastWeek();
        sheetSizes();
        sheetRefused();
        sheetIsNew();
        putAtTheEnds();
        lowestBits();
        readMany();
        readFromTheEnds();
        readOfNone();
        readRefusedByLay();
        readRefusedAlone();
        readBuysOneByOne();
        tornIsOfTheLatest();
        countAtTheEnds();
        Checks.finish("SheetLimitsTest");
    }

    private static void due(String call, long got, long want) {
        Checks.due(call, got, want);
    }

    private static void same(String call, SeasonYard x, String before) {
        due(call + " changes nothing", Checks.stateOf(x).equals(before) ? 1 : 0, 1);
    }

    private static SeasonYard seen(int... all) {
        SeasonYard x = new SeasonYard();
        for (int i = 0; i + 1 < all.length; i += 2) {
            due("32 see", x.see(all[i], all[i + 1]), i / 2 + 1);
        }
        return x;
    }

    private static void seenIsFull() {
        SeasonYard x = seen(0, 0, 4, 4, 0, 0, 4, 4, 0, 0);
        due("32 the 6th", x.see(4, 4), 6);
        String before = Checks.stateOf(x);
        due("32 the 7th", x.see(0, 0), -3);
        due("32 the 7th, told already", x.see(4, 4), -3);
        due("32 BAD ahead of FULL", x.see(5, 0), -1);
        due("32 BAD ahead of FULL", x.see(0, 5), -1);
        due("32 BAD ahead of FULL", x.see(-1, 0), -1);
        due("32 BAD ahead of FULL", x.see(0, -1), -1);
        same("32", x, before);
        due("33 one is forgotten", x.forget(5), 6);
        due("32 room for one", x.see(1, 0), 6);
        due("32 FULL again", x.see(1, 0), -3);
    }

    private static void seenIsForgotten() {
        SeasonYard x = new SeasonYard();
        due("33 none of none", x.forget(0), 0);
        due("33 one of none", x.forget(1), -1);
        due("33 below", x.forget(-1), -1);
        x = seen(0, 1, 1, 2, 2, 3, 3, 3, 4, 3, 4, 3);
        String before = Checks.stateOf(x);
        due("33 one more than there are", x.forget(7), -1);
        due("33 below", x.forget(-1), -1);
        due("33 all", x.forget(6), 6);
        same("33", x, before);
        for (int n = 5; n >= 0; n--) {
            due("33 one less", x.forget(n), n + 1);
            due("44 SEEN", x.count(0), n);
            due("33 one more than there are", x.forget(n + 1), -1);
        }
        due("34 none is SEEN", x.rows(0, 3, 0), 125);
        x = seen(0, 1, 0, 0);
        due("34 two that can not be", x.rows(0, 1, 0), 0);
        x.forget(1);
        due("33 the first is left", x.rows(0, 1, 0), 1);
        x.see(0, 1);
        due("33 the later one came in its place", x.rows(0, 1, 0), 1);
    }

    private static void rowsOfEachLength() {
        int[] all = {0, 5, 25, 125, 625, 3125};
        SeasonYard x = new SeasonYard();
        for (int k = 0; k < 5; k++) {
            for (int w = 1; w <= 5; w++) {
                due("34 all", x.rows(k, w, 0), all[w]);
                due("34 the first", x.rows(k, w, 1), 0);
            }
            due("34 no WEEK", x.rows(k, 0, 0), -1);
            due("34 a 6th WEEK", x.rows(k, 6, 0), -1);
        }
        int[] firsts = {38, 76, 0, 12, 7};
        int[] weeks = {3, 3, 3, 2, 2};
        for (int k = 0; k < 5; k++) {
            SeasonYard y = seen(weeks[k] - 1, 3);
            due("34 RIPE as soon as may be", y.rows(k, weeks[k], 0), 1);
            due("34 WEEK 0 the highest figure", y.rows(k, weeks[k], 1), firsts[k]);
            due("34 any behind it", y.rows(k, 5, 0), all[5 - weeks[k]]);
            int shifted = firsts[k];
            for (int w = weeks[k]; w < 5; w++) {
                shifted *= 5;
            }
            due("34 the first behind it", y.rows(k, 5, 1), shifted);
        }
    }

    private static void rowsThatNoneFits() {
        for (int k = 0; k < 5; k++) {
            SeasonYard x = seen(0, 2);
            for (int w = 1; w <= 5; w++) {
                due("34 none, how many", x.rows(k, w, 0), 0);
                due("34 none, the first", x.rows(k, w, 1), -4);
                for (int week = 0; week < w; week++) {
                    due("35 none", x.sure(k, w, week), -4);
                }
                due("36 none", x.sown(w), 0);
            }
            due("34 BAD ahead of NONE", x.rows(k, 0, 1), -1);
            due("35 BAD ahead of NONE", x.sure(k, 2, 2), -1);
            due("34 RIPE, then not", seen(2, 3, 3, 0).rows(k, 4, 0), 0);
            due("34 SPOILED, then RIPE", seen(2, 4, 3, 3).rows(k, 4, 0), 0);
            due("34 SPOILED at once", seen(0, 4).rows(k, 1, 0), 0);
            due("34 RIPE at once", seen(0, 3).rows(k, 1, 0), 0);
        }
        due("34 rose has no STAGE 2", seen(4, 2).rows(3, 5, 0), 0);
        due("34 bean has no STAGE 2", seen(4, 2).rows(4, 5, 0), 0);
        due("34 wheat is not RIPE in two", seen(1, 3).rows(0, 2, 0), 0);
    }

    private static void seenBehindTheRows() {
        for (int week = 0; week < 5; week++) {
            SeasonYard x = seen(week, 1);
            for (int w = 1; w <= 5; w++) {
                due("34 of these WEEKS alone", x.rows(4, w, 0) == (int) Math.pow(5, w) ? 1 : 0, w <= week ? 1 : 0);
                due("36 of these WEEKS alone", x.sown(w), 31);
            }
        }
        SeasonYard x = seen(1, 3);
        due("36 not yet", x.sown(1), 31);
        due("36 of the last WEEK too", x.sown(2), 24);
    }

    private static void sureOfAll() {
        SeasonYard x = new SeasonYard();
        for (int w = 1; w <= 5; w++) {
            for (int week = 0; week < w; week++) {
                due("35 not one by all", x.sure(2, w, week), -4);
            }
            due("35 not below w", x.sure(2, w, w), -1);
            due("35 below", x.sure(2, w, -1), -1);
        }
        x = seen(4, 2, 0, 1, 3, 1);
        due("35 the first WEEK", x.sure(0, 5, 0), 1);
        due("35 the last WEEK", x.sure(0, 5, 4), 2);
        due("35 it waited", x.sure(0, 5, 1), 1);
        due("35 moss can not wait at STAGE 1", x.sure(2, 5, 1), -4);
        due("35 winter", seen(0, 1).sure(2, 1, 0), 0);
        due("35 autumn", seen(0, 1).sure(1, 1, 0), 3);
        x = seen(1, 2, 2, 4);
        due("35 not one by all", x.sure(0, 3, 2), -4);
        due("35 any of four is not one", seen(0, 0).sure(0, 1, 0), -4);
    }

    private static void sownOfEach() {
        SeasonYard x = new SeasonYard();
        for (int w = 1; w <= 5; w++) {
            due("36 all", x.sown(w), 31);
        }
        due("36 below", x.sown(0), -1);
        due("36 above", x.sown(6), -1);
        due("36 the three that have a STAGE 2", seen(1, 2).sown(2), 7);
        due("36 the two that are short", seen(1, 3).sown(5), 24);
        due("36 moss and rose want again what they wanted: they can not wait", seen(0, 1, 4, 1).sown(5), 19);
    }

    private static void imageOfEach() {
        for (int k = 0; k < 2; k++) {
            SeasonYard x = Checks.yard("lay 0 2 9;");
            due("39 none", x.back(k), -2);
            due("44 none", x.count(1), 0);
            due("38 the first", x.keep(k), 0);
            due("44 one", x.count(1), 1);
            due("39 the other is none", x.back(1 - k), -2);
            due("39 it", x.back(k), 0);
            x.week(1);
            due("38 again", x.keep(k), 1);
            due("44 one still", x.count(1), 1);
            x.week(3);
            due("39 the later", x.back(k), 1);
            due("39 it is not used up", x.back(k), 1);
            due("7 YARDS", x.cell(0, 1), 8);
            due("38 the other", x.keep(1 - k), 0);
            due("44 both", x.count(1), 2);
            due("38 above", x.keep(2), -1);
            due("38 below", x.keep(-1), -1);
            due("39 above", x.back(2), -1);
            due("39 below", x.back(-1), -1);
            due("4 a FAULT", Checks.told(x, "?"), -10);
            due("39 a FAULT leaves it", x.back(k), 1);
            due("4 a text", Checks.told(x, ""), 0);
            due("39 gone", x.back(k), -2);
            due("44 gone", x.count(1), 0);
            due("38 none was", x.keep(k), 0);
        }
    }

    private static void imageHoldsAll() {
        SeasonYard x = Checks.yard("size 3 2;lay 0 2 9;lay 1 1 1;sow 0 rose;sow 1 bean;sow 2 rye;own 0 2;wall 0;rule 3 4 4;stock 1 9 2;purse 20;");
        x.week(2);
        String before = Checks.stateOf(x);
        due("11 RIPE", x.ripe(2), 1);
        due("6 SPOILED", x.rule(5), 1);
        x.keep(1);
        String held = Checks.stateOf(x);
        x.week(9);
        x.lay(5, 1, 9);
        x.bare(0);
        x.sow(2, 0);
        x.own(2, 1);
        x.wall(0, false);
        x.wall(2, true);
        x.store(3, 7);
        x.price(3, 7);
        x.fund(999);
        x.bite(0, 1);
        due("39 WEEK", x.back(1), 2);
        due("39 all is as it was", Checks.stateOf(x).equals(held) ? 1 : 0, 1);
        due("38 an image changes nothing else", held.length(), before.length());
        x.fund(77);
        x.back(1);
        due("39 the image stays as it was", Checks.stateOf(x).equals(held) ? 1 : 0, 1);
    }

    private static void imageOfTheLastWeek() {
        SeasonYard x = new SeasonYard();
        x.keep(0);
        for (int i = 0; i < 17; i++) {
            x.week(i == 0 ? 39 : 60);
        }
        x.keep(1);
        due("21 FULL", x.week(1), -3);
        due("39 WEEK", x.back(0), 0);
        due("21 not FULL", x.week(1), 0);
        due("39 WEEK", x.back(1), 999);
        due("21 FULL", x.week(1), -3);
    }

    private static void sheetSizes() {
        SeasonYard x = new SeasonYard();
        for (int lane = 0; lane < 3; lane++) {
            for (int n = 0; n <= 40; n++) {
                due("40 sheet", x.sheet(0, lane, n), 1);
                due("44 CELLS", x.count(3), n);
                due("41 ahead of the first", x.put(0, -1, 1), -12);
                due("41 the first", x.put(0, 0, 1), n > 0 ? 1 : -12);
                due("41 the last", x.put(0, n - 1, 1), n > 0 ? 1 : -12);
                due("41 behind the last", x.put(0, n, 1), -12);
            }
            due("40 above", x.sheet(0, lane, 41), -1);
            due("40 far above", x.sheet(0, lane, MAX), -1);
            due("40 SIZE", x.sheet(0, lane, -1), -14);
            due("40 far below", x.sheet(0, lane, MIN), -14);
            due("40 it stays", x.count(3), 40);
        }
    }

    private static void sheetRefused() {
        SeasonYard x = new SeasonYard();
        due("40 SIZE of nothing", x.sheet(0, 0, -1), -14);
        due("44 nothing came", x.count(3), -4);
        due("41 nothing came", x.put(0, 0, 1), -11);
        due("40 above, of nothing", x.sheet(0, 0, 41), -1);
        due("44 nothing came", x.count(3), -4);
        due("40 BAD ahead of SIZE", x.sheet(4, 0, -1), -1);
        due("40 BAD ahead of SIZE", x.sheet(-1, 0, -1), -1);
        due("40 BAD ahead of SIZE", x.sheet(0, 3, -1), -1);
        due("40 BAD ahead of SIZE", x.sheet(0, -1, -1), -1);
        for (int k = 0; k < 4; k++) {
            due("40 each", x.sheet(k, k % 3, k), 1);
        }
        due("44 of SHEET 0 alone", x.count(3), 0);
        due("43 no read", x.torn(), 0);
    }

    /** A sheet of a lane in which numbers stand, in an object that has yards of each season. */
    private static SeasonYard filled(int lane, int... values) {
        SeasonYard x = Checks.yard("stock 0 99 1;stock 1 99 1;stock 2 99 1;stock 3 99 1;purse 99;");
        due("40 sheet", x.sheet(1, lane, values.length), 1);
        for (int i = 0; i < values.length; i++) {
            due("41 put", x.put(1, i, values[i]), 1);
        }
        return x;
    }

    private static void sheetIsNew() {
        SeasonYard x = filled(1, 3, 2, 9);
        due("40 above", x.sheet(1, 1, 41), -1);
        due("40 SIZE", x.sheet(1, 1, -1), -14);
        due("41 INDEX", x.put(1, 3, 5), -12);
        due("41 INDEX", x.put(1, -1, 5), -12);
        due("42 what is refused leaves it", x.read(1, 1, 0, 1), 1);
        due("42 CELL, SEASON, YARDS", 100 * 3 + 10 * x.cell(3, 0) + x.cell(3, 1), 329);
        due("40 a new row", x.sheet(1, 1, 3), 1);
        due("40 all 0: no YARDS", x.read(1, 1, 0, 1), -20);
        x.put(1, 2, 1);
        due("40 all 0", x.read(1, 1, 0, 1), 1);
        due("40 CELL 0, SEASON 0", x.cell(0, 0), 0);
        due("40 another lane", x.sheet(1, 2, 3), 1);
        due("42 the lane there was", x.read(1, 1, 0, 1), 0);
        due("43 CAST", x.torn(), 3);
    }

    private static void putAtTheEnds() {
        SeasonYard x = new SeasonYard();
        int[] far = {MIN, MIN + 1, -2, -1, 40, 41, MAX};
        for (int k = 0; k < 4; k++) {
            for (int i : far) {
                due("41 NULL ahead of INDEX", x.put(k, i, 1), -11);
            }
            due("41 NULL", x.put(k, 0, 1), -11);
            x.sheet(k, k % 3, 40);
            for (int i : far) {
                due("41 INDEX", x.put(k, i, 1), -12);
            }
            due("41 the first", x.put(k, 0, MIN), 1);
            due("41 the last", x.put(k, 39, MAX), 1);
        }
        due("41 BAD ahead of INDEX", x.put(4, 40, 1), -1);
        due("41 BAD ahead of INDEX", x.put(-1, 40, 1), -1);
        due("43 put tells torn() nothing", x.torn(), 0);
    }

    /** What wraps around in each lane to the YARDS 1 and 9, and what does not. */
    private static void lowestBits() {
        int[] rounds = {256, 65536, 0};
        for (int lane = 0; lane < 3; lane++) {
            for (int times = -3; times <= 3; times++) {
                for (int y = 0; y <= 10; y++) {
                    int v = times * rounds[lane] + y;
                    due("41 lowest bits of " + v, filled(lane, 0, 1, v).read(1, lane, 0, 1), y >= 1 && y <= 9 ? 1 : -20);
                }
            }
            due("41 the lowest of all", filled(lane, MIN, 1, 1).read(1, lane, 0, 1), lane < 2 ? 1 : -20);
            due("41 the highest of all", filled(lane, MAX, 1, 1).read(1, lane, 0, 1), -20);
        }
        due("41 a short keeps eight bits more", filled(1, 0, 1, 257).read(1, 1, 0, 1), -20);
        due("41 an int keeps all", filled(2, 0, 1, 65537).read(1, 2, 0, 1), -20);
        due("41 an int keeps all", filled(2, 0, 1, MIN + 1).read(1, 2, 0, 1), -20);
    }

    private static int[] layings(int n) {
        int[] all = new int[3 * n];
        for (int i = 0; i < n; i++) {
            all[3 * i] = i % 4;
            all[3 * i + 1] = (i + i / 4) % 4;
            all[3 * i + 2] = 1 + i % 9;
        }
        return all;
    }

    private static void readMany() {
        for (int n = 0; n <= 13; n++) {
            SeasonYard x = filled(n % 3, layings(n));
            due("42 all", x.read(1, n % 3, 0, n), n);
            due("43 none", x.torn(), 0);
            for (int i = Math.max(0, n - 4); i < n; i++) {
                due("42 the latest lies", x.cell(i % 4, 1), 1 + i % 9);
                due("42 the latest lies", x.cell(i % 4, 0), (i + i / 4) % 4);
            }
            x = filled(n % 3, layings(n));
            due("42 one more", x.read(1, n % 3, 0, n + 1), n == 13 ? -1 : n);
            due("43 INDEX", x.torn(), n == 13 ? 0 : 2);
        }
        due("42 below", filled(0, layings(2)).read(1, 0, 0, -1), -1);
        due("42 above", filled(0, layings(13)).read(1, 0, 0, 14), -1);
    }

    private static void readFromTheEnds() {
        int[] all = new int[40];
        for (int i = 0; i < 40; i++) {
            all[i] = 1;
        }
        int[] far = {MIN, MIN + 1, MIN + 3, -40, -4, -3, -2, -1, 38, 39, 40, 41, MAX - 39, MAX - 3, MAX - 2, MAX - 1, MAX};
        for (int f : far) {
            for (int n : new int[] {1, 2, 13}) {
                SeasonYard x = filled(2, all);
                String before = Checks.stateOf(x);
                due("42 none is whole from " + f, x.read(1, 2, f, n), 0);
                due("43 INDEX", x.torn(), 2);
                x.read(1, 2, f, 0);
                same("42 from " + f, x, before);
            }
        }
        for (int f = 0; f <= 37; f++) {
            int whole = (40 - f) / 3;
            SeasonYard x = filled(1, all);
            due("42 those that are whole", x.read(1, 1, f, 13), whole);
            due("43 INDEX but of all thirteen", x.torn(), whole == 13 ? 0 : 2);
            due("42 each is paid", x.rule(3), 99 - whole);
        }
    }

    private static void readOfNone() {
        SeasonYard x = filled(1, 0, 1, 1);
        String before = Checks.stateOf(x);
        int[] from = {MIN, -1, 0, 1, 3, 40, MAX};
        for (int f : from) {
            for (int lane = 0; lane < 3; lane++) {
                x.read(0, 0, 0, 1);
                due("43 NULL", x.torn(), 1);
                due("42 none of nothing", x.read(0, lane, f, 0), 0);
                due("43 no FAULT", x.torn(), 0);
                x.read(0, 0, 0, 1);
                due("42 none of another lane", x.read(1, lane, f, 0), 0);
                due("43 no FAULT", x.torn(), 0);
            }
        }
        same("42 none", x, before);
        due("42 BAD of none", x.read(4, 0, 0, 0), -1);
        due("42 BAD of none", x.read(0, 3, 0, 0), -1);
    }

    /** Each of thirteen is refused by lay() in turn, as BAD and as STATE: none came. */
    private static void readRefusedByLay() {
        for (int i = 0; i < 13; i++) {
            for (int way = 0; way < 4; way++) {
                int[] all = layings(13);
                all[3 * i] = way == 0 ? 4 : all[3 * i];
                all[3 * i + 1] = way == 1 ? -1 : all[3 * i + 1];
                all[3 * i + 2] = way == 2 ? 0 : all[3 * i + 2];
                SeasonYard x = filled(0, all);
                x.read(0, 0, 0, 1);
                int paid = 0;
                for (int k = 0; k <= i && way == 3; k++) {
                    paid += all[3 * k + 2];
                }
                x.fund(way == 3 ? paid - 1 : 999);
                String before = Checks.stateOf(x);
                due("42 the " + i + "th, way " + way, x.read(1, 0, 0, 13), -20 - i);
                same("42", x, before);
                if (way != 3) {
                    due("42 the first met, ahead of the SHEET's end", x.read(1, 0, 3 * i, 13), -20);
                    same("42", x, before);
                }
                due("42 those ahead of it", x.read(1, 0, 0, i), i);
            }
        }
    }

    private static void readRefusedAlone() {
        SeasonYard x = filled(0, 0, 1, 1, 9, 9);
        due("42 the second is not whole: the machine's", x.read(1, 0, 0, 2), 1);
        due("43 INDEX", x.torn(), 2);
        x = filled(0, 0, 1, 0, 9, 9);
        due("42 the first is refused ahead of it", x.read(1, 0, 0, 2), -20);
        due("43 it leaves it", x.torn(), 0);
        due("42 CAST ahead of what lay() refuses", x.read(1, 1, 0, 1), 0);
        due("43 CAST", x.torn(), 3);
        due("42 CAST ahead of INDEX", x.read(1, 2, 40, 1), 0);
        due("43 CAST", x.torn(), 3);
        due("42 NULL for any lane", x.read(2, 2, 40, 1), 0);
        due("43 NULL", x.torn(), 1);
    }

    private static void readBuysOneByOne() {
        int[] three = {0, 1, 3, 0, 1, 3, 1, 1, 3};
        SeasonYard x = filled(2, three);
        x.store(1, 8);
        due("42 STOCK is one too few for the third", x.read(1, 2, 0, 3), -22);
        due("42 none came", x.stock(1, 0), 8);
        due("42 none came", x.cell(0, 0), 4);
        x.store(1, 9);
        x.fund(8);
        due("42 PURSE is one too small for the third", x.read(1, 2, 0, 3), -22);
        due("42 none came", x.rule(3), 8);
        x.fund(9);
        due("42 just so", x.read(1, 2, 0, 3), 3);
        due("42 PURSE", x.rule(3), 0);
        due("42 STOCK", x.stock(1, 0), 0);
        due("44 YARDS, one laying in place of another", x.count(6), 6);
    }

    private static void tornIsOfTheLatest() {
        SeasonYard x = filled(0, 0, 1, 1);
        due("43 none yet", x.torn(), 0);
        x.read(2, 0, 0, 1);
        due("43 NULL", x.torn(), 1);
        int[] refused = {x.read(4, 0, 0, 1), x.read(1, 3, 0, 1), x.read(1, 0, 0, 14), x.read(1, 0, 0, -1), x.sheet(2, 0, -1), x.put(1, 9, 9)};
        int[] want = {-1, -1, -1, -1, -14, -12};
        for (int i = 0; i < want.length; i++) {
            due("42 refused", refused[i], want[i]);
        }
        due("43 what is refused leaves it", x.torn(), 1);
        x.fund(0);
        due("42 refused by lay()", x.read(1, 0, 0, 1), -20);
        due("43 what is refused leaves it", x.torn(), 1);
        due("43 it is told again", x.torn(), 1);
        x.keep(0);
        x.back(0);
        x.week(1);
        due("43 it stays", x.torn(), 1);
        x.fund(9);
        due("42 one", x.read(1, 0, 0, 1), 1);
        due("43 none", x.torn(), 0);
    }

    private static void countAtTheEnds() {
        SeasonYard x = Checks.yard("size 4 4;stock 3 99 1;purse 99;");
        due("44 all BARE", x.count(4), 16);
        for (int c = 0; c < 16; c++) {
            x.store(3, 99);
            x.fund(99);
            x.lay(c, 3, 9);
            x.sow(c, 0);
            due("44 BARE", x.count(4), 15 - c);
            due("44 CROPS", x.count(5), c + 1);
            due("44 YARDS", x.count(6), 9 * (c + 1));
        }
        x.week(8);
        due("44 the last YARDS", x.count(6), 16);
        due("44 none BARE", x.count(4), 0);
        x.week(1);
        due("44 no YARDS", x.count(6), 0);
        due("44 all BARE", x.count(4), 16);
        due("44 CROPS wait", x.count(5), 16);
        due("44 below", x.count(-1), -1);
        due("44 above", x.count(8), -1);
    }
}
