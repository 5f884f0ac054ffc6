import java.math.BigInteger;

/** Promises 21 to 37 against a slow model, in gardens by dice. */
public final class ModelTest {
    private static String where = "";

    public static void main(String[] args) {
        for (int i = 0; i < 1500; i++) {
            Dice dice = new Dice(i);
            Model m = Model.thrown(dice);
            SeasonYard x = m.made();
            where = "garden " + i + ": ";
            int gone = dice.below(3);
            int ripe = m.ripeInAll();
            m = m.behind(gone);
            due("week", x.week(gone), m.ripeInAll() - ripe);
            String state = Checks.stateOf(x);
            weeks(m, x, dice);
            most(m, x, dice);
            fence(m, x, dice);
            blame(m, x, dice);
            drift(m, x, dice);
            luck(m, x, dice);
            plan(m, x, dice, i % 10 == 0 ? 3 : dice.between(1, 2));
            due("nothing is changed", Checks.stateOf(x).equals(state) ? 1 : 0, 1);
        }
        for (int i = 0; i < 400; i++) {
            where = "stubble " + i + ": ";
            stubble(new Dice(i + 77777));
        }
        Checks.finish("ModelTest");
    }

    private static void due(String call, long got, long want) {
        Checks.due(where + call, got, want);
    }

    private static void weeks(Model m, SeasonYard x, Dice dice) {
        int n = dice.below(3) == 0 ? dice.below(61) : dice.below(6);
        Model then = m.behind(n);
        int spread = 0;
        for (int c = 0; c < m.wide * m.high; c++) {
            for (int what = 0; what < 5; what++) {
                due("cell", x.cell(c, what), m.told(c, what));
                due("ahead", x.ahead(c, n, what), then.told(c, what));
            }
            spread |= m.ruleAt(c / m.wide, c % m.wide) == null ? 0 : 1 << c;
            due("when " + c, x.when(c), when(m, c));
        }
        due("spreads", x.spreads(), spread);
        due("comes", x.comes(n, 0), then.ripeInAll() - m.ripeInAll());
        due("comes", x.comes(n, 1), then.spoiled - m.spoiled);
        for (int o = 0; o < 3; o++) {
            due("ripe", x.ripe(o), m.ripe[o]);
        }
        due("again", x.again(), again(m));
    }

    private static int when(Model m, int c) {
        if (m.told(c, 2) == -4) {
            return -2;
        }
        Model now = m.copy();
        for (int week = 1; week <= 60; week++) {
            Model alone = now.copy();
            for (int d = 0; d < m.wide * m.high; d++) {
                if (d != c) {
                    alone.crop[d / m.wide][d % m.wide] = -1;
                }
            }
            alone.week();
            if (alone.ripeInAll() > now.ripeInAll()) {
                return week;
            }
            now.week();
        }
        return -4;
    }

    private static int again(Model m) {
        Model now = m.copy();
        for (int week = 1; week <= 60; week++) {
            now.week();
            boolean isSame = true;
            for (int c = 0; c < m.wide * m.high; c++) {
                isSame &= now.told(c, 0) == m.told(c, 0) && now.told(c, 1) == m.told(c, 1);
            }
            if (isSame) {
                return week;
            }
        }
        return -4;
    }

    private static void most(Model m, SeasonYard x, Dice dice) {
        int n = dice.between(1, 12);
        int best = -1;
        int laying = -1;
        for (int number = 0; number < 10 * m.wide * m.high; number++) {
            if (number % 10 < 4) {
                Model then = m.copy();
                then.set(number / 10, number % 10, 3);
                int ripe = then.behind(n).ripeInAll() - m.ripeInAll();
                laying = ripe > best ? number : laying;
                best = Math.max(best, ripe);
            }
        }
        due("most " + n, x.most(n, 0), laying);
        due("most " + n, x.most(n, 1), best);
    }

    private static void fence(Model m, SeasonYard x, Dice dice) {
        int n = dice.between(1, 12);
        int now = m.behind(n).spoiled - m.spoiled;
        int fewest = now;
        int edge = -4;
        for (int e = 31; e >= 0; e--) {
            if (m.isEdge(e) && !m.walls.contains(e)) {
                Model then = m.copy();
                then.walls.add(e);
                int spoiled = then.behind(n).spoiled - m.spoiled;
                if (spoiled < now && spoiled <= fewest) {
                    fewest = spoiled;
                    edge = e;
                }
            }
        }
        due("fence " + n, x.fence(n, 0), edge);
        due("fence " + n, x.fence(n, 1), edge == -4 ? -4 : fewest);
    }

    private static void blame(Model m, SeasonYard x, Dice dice) {
        int n = dice.between(1, dice.below(2) == 0 ? 4 : 12);
        Model then = m.behind(n);
        for (int c = 0; c < m.wide * m.high; c++) {
            int bits = 0;
            for (int d = 0; d < m.wide * m.high; d++) {
                Model other = m.copy();
                other.set(d, 4, 0);
                other = other.behind(n);
                if (d != c && (other.told(c, 2) != then.told(c, 2) || other.told(c, 3) != then.told(c, 3))) {
                    bits |= 1 << d;
                }
            }
            due("blame " + c + " " + n, x.blame(c, n), m.told(c, 2) == -4 ? -2 : bits);
        }
    }

    private static void drift(Model m, SeasonYard x, Dice dice) {
        int seed = dice.below(Integer.MAX_VALUE) * 2 + dice.below(2);
        int n = dice.between(1, 60);
        Model then = m.copy();
        BigInteger now = BigInteger.valueOf(seed);
        for (int i = 0; i < n; i++) {
            now = next(now);
            int c = bits(now) % (m.wide * m.high);
            now = next(now);
            then.set(c, bits(now) % 4, 2);
            then.week();
        }
        due("drift " + seed + " " + n, x.drift(seed, n, 0), then.ripeInAll() - m.ripeInAll());
        due("drift " + seed + " " + n, x.drift(seed, n, 1), then.spoiled - m.spoiled);
    }

    private static BigInteger next(BigInteger seed) {
        return seed.multiply(BigInteger.valueOf(1103515245)).add(BigInteger.valueOf(12345));
    }

    private static int bits(BigInteger seed) {
        return seed.shiftRight(16).and(BigInteger.valueOf(32767)).intValue();
    }

    /** By every way of which weeks lose one yard more. */
    private static void luck(Model m, SeasonYard x, Dice dice) {
        int c = dice.below(m.wide * m.high);
        int v = dice.below(11);
        int n = dice.between(1, 8);
        if (m.told(c, 2) == -4) {
            due("luck", x.luck(c, v, n, 0), -2);
            return;
        }
        BigInteger good = BigInteger.ZERO;
        for (int lost = 0; lost < 1 << n; lost++) {
            if (isRipeWhenLost(m, c, n, lost)) {
                int more = Integer.bitCount(lost);
                good = good.add(BigInteger.valueOf(v).pow(more).multiply(BigInteger.valueOf(10 - v).pow(n - more)));
            }
        }
        BigInteger all = BigInteger.TEN.pow(n);
        BigInteger common = good.gcd(all);
        due("luck " + c + " " + v + " " + n, x.luck(c, v, n, 0), good.divide(common).longValue());
        due("luck " + c + " " + v + " " + n, x.luck(c, v, n, 1), all.divide(common).longValue());
    }

    private static boolean isRipeWhenLost(Model m, int c, int n, int lost) {
        char stage = (char) ('0' + m.told(c, 3));
        char season = (char) ('0' + m.told(c, 0));
        int yards = m.told(c, 1);
        for (int week = 0; week < n && stage <= '9'; week++) {
            stage = Model.grown(m.told(c, 2), stage - '0', yards > 0 ? season : '4');
            yards -= 1 + (lost >> week & 1);
        }
        return stage == 'r';
    }

    /** By every row of layings. */
    private static void plan(Model m, SeasonYard x, Dice dice, int n) {
        int c = dice.below(m.wide * m.high);
        int[] prices = new int[4];
        for (int s = 0; s < 4; s++) {
            prices[s] = dice.between(1, dice.below(2) == 0 ? 2 : 9);
        }
        for (int s = 0; s < 4; s++) {
            x.price(s, prices[s]);
        }
        if (m.told(c, 2) == -4) {
            due("plan", x.plan(c, n, 0), -2);
        } else {
            int least = Integer.MAX_VALUE;
            int[] best = null;
            int rows = (int) Math.pow(37, n);
            for (int row = 0; row < rows; row++) {
                int[] laid = new int[n];
                for (int k = n - 1, rest = row; k >= 0; k--, rest /= 37) {
                    laid[k] = rest % 37;
                }
                int costs = costs(m, c, laid, prices);
                if (costs >= 0 && costs < least) {
                    least = costs;
                    best = laid;
                }
            }
            due("plan " + c + " " + n, x.plan(c, n, 0), best == null ? -4 : least);
            for (int k = 0; k < n; k++) {
                int number = best == null ? -4 : best[k] == 0 ? 0 : 10 + (best[k] - 1) / 9 * 10 + (best[k] - 1) % 9 + 1;
                due("plan " + c + " " + n + " " + k, x.plan(c, n, 10 + k), number);
            }
        }
        for (int s = 0; s < 4; s++) {
            x.price(s, 1);
        }
    }

    private static int costs(Model m, int c, int[] laid, int[] prices) {
        char stage = (char) ('0' + m.told(c, 3));
        int season = m.told(c, 0);
        int yards = m.told(c, 1);
        int costs = 0;
        for (int l : laid) {
            if (stage == 'r' && l > 0 || stage == 's') {
                return -1;
            }
            if (l > 0) {
                season = (l - 1) / 9;
                yards = (l - 1) % 9 + 1;
                costs += prices[season] * yards;
            }
            if (stage != 'r') {
                stage = Model.grown(m.told(c, 2), stage - '0', yards > 0 ? (char) ('0' + season) : '4');
            }
            yards--;
        }
        return stage == 'r' ? costs : -1;
    }

    /** By every row of what lay. */
    private static void stubble(Dice dice) {
        int n = dice.below(7);
        int[] weeks = new int[n];
        char[] stages = new char[n];
        SeasonYard x = new SeasonYard();
        int from = dice.below(5);
        String row = "";
        for (int i = 0; i < 5; i++) {
            row += dice.below(3) == 0 ? dice.below(5) : Model.CROPS[from].charAt(Math.min(i, Model.CROPS[from].length() - 1)) - '0';
        }
        for (int i = 0; i < n; i++) {
            weeks[i] = dice.below(5);
            stages[i] = dice.below(8) == 0 ? "012rs".charAt(dice.below(5)) : after(from, row, weeks[i]);
            due("see", x.see(weeks[i], "012rs".indexOf(stages[i])), i + 1);
        }
        for (int w = 1; w <= 5; w++) {
            int able = 0;
            for (int k = 0; k < 5; k++) {
                able |= stubbleOf(x, k, w, weeks, stages) ? 1 << k : 0;
            }
            due("sown", x.sown(w), able);
        }
    }

    private static boolean stubbleOf(SeasonYard x, int k, int w, int[] weeks, char[] stages) {
        int many = 0;
        int first = -4;
        int[] kinds = new int[w];
        for (int number = 0; number < Math.pow(5, w); number++) {
            String row = Integer.toString(number, 5);
            row = "00000".substring(0, w - row.length()) + row;
            boolean fits = true;
            for (int i = 0; i < weeks.length; i++) {
                fits &= weeks[i] >= w || after(k, row, weeks[i]) == stages[i];
            }
            if (fits) {
                many++;
                first = first < 0 ? number : first;
                for (int i = 0; i < w; i++) {
                    kinds[i] |= 1 << row.charAt(i) - '0';
                }
            }
        }
        due("rows " + k + " " + w, x.rows(k, w, 0), many);
        due("rows " + k + " " + w, x.rows(k, w, 1), first);
        for (int i = 0; i < w; i++) {
            int one = Integer.bitCount(kinds[i]) == 1 ? Integer.numberOfTrailingZeros(kinds[i]) : -4;
            due("sure " + k + " " + w + " " + i, x.sure(k, w, i), one);
        }
        return many > 0;
    }

    private static char after(int k, String row, int week) {
        char stage = '0';
        for (int i = 0; i <= week && stage <= '9'; i++) {
            stage = Model.grown(k, stage - '0', row.charAt(i));
        }
        return stage;
    }
}
