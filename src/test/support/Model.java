import java.util.ArrayList;
import java.util.HashSet;
import java.util.List;
import java.util.Set;

/** A garden told once more, as slowly and plainly as the document tells it, to look at the answers by. */
final class Model {
    static final String[] CROPS = {"123", "301", "000", "22", "12"};
    static final String[] NAMES = {"wheat", "rye", "moss", "rose", "bean"};
    int wide;
    int high;
    /** What lies as a figure, 4 where nothing does. */
    char[][] lies;
    int[][] yards;
    int[][] crop;
    int[][] stage;
    int[][] owner;
    Set<Integer> walls = new HashSet<>();
    List<int[]> rules = new ArrayList<>();
    int[] ripe = new int[3];
    int spoiled;

    Model(int wide, int high) {
        this.wide = wide;
        this.high = high;
        lies = new char[high][wide];
        yards = new int[high][wide];
        crop = new int[high][wide];
        stage = new int[high][wide];
        owner = new int[high][wide];
        for (int c = 0; c < wide * high; c++) {
            lies[c / wide][c % wide] = '4';
            crop[c / wide][c % wide] = -1;
        }
    }

    Model copy() {
        Model m = new Model(wide, high);
        for (int y = 0; y < high; y++) {
            m.lies[y] = lies[y].clone();
            m.yards[y] = yards[y].clone();
            m.crop[y] = crop[y].clone();
            m.stage[y] = stage[y].clone();
            m.owner[y] = owner[y].clone();
        }
        m.walls.addAll(walls);
        m.rules.addAll(rules);
        m.ripe = ripe.clone();
        m.spoiled = spoiled;
        return m;
    }

    /** A garden by dice. */
    static Model thrown(Dice dice) {
        Model m = new Model(dice.between(2, 4), dice.between(2, 4));
        for (int c = 0; c < m.wide * m.high; c++) {
            if (dice.below(10) < 6) {
                m.set(c, dice.below(4), dice.between(1, dice.below(2) == 0 ? 3 : 9));
            }
            if (dice.below(10) < 6) {
                m.crop[c / m.wide][c % m.wide] = dice.below(5);
            }
            m.owner[c / m.wide][c % m.wide] = dice.below(3);
        }
        for (int e = 0; e < 32; e++) {
            if (m.isEdge(e) && dice.below(5) == 0) {
                m.walls.add(e);
            }
        }
        for (int k = dice.below(6); k > 0; k--) {
            int a = dice.below(4);
            int b = dice.below(5);
            if (a != b) {
                m.rules.add(new int[] {a, b, dice.below(3) == 0 ? dice.between(1, 4) : 1});
            }
        }
        return m;
    }

    /** The same garden as an object, told by calls and a text of the rules and the size. */
    SeasonYard made() {
        StringBuilder text = new StringBuilder("size " + wide + " " + high + ";");
        for (int[] r : rules) {
            text.append("rule ").append(r[0]).append(' ').append(r[1]).append(' ').append(r[2]).append(';');
        }
        SeasonYard x = Checks.yard(text.toString());
        for (int c = 0; c < wide * high; c++) {
            int row = c / wide;
            int col = c % wide;
            if (lies[row][col] != '4') {
                x.store(lies[row][col] - '0', 9);
                x.fund(9);
                x.lay(c, lies[row][col] - '0', yards[row][col]);
            }
            if (crop[row][col] >= 0) {
                x.sow(c, crop[row][col]);
            }
            x.own(c, owner[row][col]);
        }
        for (int e : walls) {
            x.wall(e, true);
        }
        return x;
    }

    void set(int c, int season, int y) {
        lies[c / wide][c % wide] = (char) ('0' + season);
        yards[c / wide][c % wide] = y;
    }

    boolean isEdge(int e) {
        int row = e / 2 / wide;
        int col = e / 2 % wide;
        return row < high && (e % 2 == 0 ? col + 1 < wide : row + 1 < high);
    }

    private int nextOnes(int row, int col, char season) {
        int n = 0;
        n += row > 0 && lies[row - 1][col] == season && !walls.contains(2 * ((row - 1) * wide + col) + 1) ? 1 : 0;
        n += row < high - 1 && lies[row + 1][col] == season && !walls.contains(2 * (row * wide + col) + 1) ? 1 : 0;
        n += col > 0 && lies[row][col - 1] == season && !walls.contains(2 * (row * wide + col - 1)) ? 1 : 0;
        n += col < wide - 1 && lies[row][col + 1] == season && !walls.contains(2 * (row * wide + col)) ? 1 : 0;
        return n;
    }

    int[] ruleAt(int row, int col) {
        for (int[] r : rules) {
            if (lies[row][col] == '0' + r[1] && nextOnes(row, col, (char) ('0' + r[0])) >= r[2]) {
                return r;
            }
        }
        return null;
    }

    /** One step of a crop: its stage, or 'r', 's'. */
    static char grown(int k, int stage, char season) {
        String wants = CROPS[k];
        if (wants.charAt(stage) == season) {
            return stage + 1 == wants.length() ? 'r' : (char) ('0' + stage + 1);
        }
        if (stage == 0) {
            return '0';
        }
        return wants.charAt(stage - 1) == season ? (char) ('0' + stage) : 's';
    }

    void week() {
        Model before = copy();
        for (int row = 0; row < high; row++) {
            for (int col = 0; col < wide; col++) {
                int[] r = before.ruleAt(row, col);
                if (r != null) {
                    lies[row][col] = (char) ('0' + r[0]);
                    yards[row][col] = before.lies[row][col] == '4' ? 1 : before.yards[row][col];
                }
                if (crop[row][col] >= 0) {
                    char then = grown(crop[row][col], stage[row][col], lies[row][col]);
                    ripe[owner[row][col]] += then == 'r' ? 1 : 0;
                    spoiled += then == 's' ? 1 : 0;
                    crop[row][col] = then > '9' ? -1 : crop[row][col];
                    stage[row][col] = then > '9' ? 0 : then - '0';
                }
                if (yards[row][col] > 0 && --yards[row][col] == 0) {
                    lies[row][col] = '4';
                }
            }
        }
    }

    Model behind(int n) {
        Model m = copy();
        for (int i = 0; i < n; i++) {
            m.week();
        }
        return m;
    }

    int ripeInAll() {
        return ripe[0] + ripe[1] + ripe[2];
    }

    int told(int c, int what) {
        int row = c / wide;
        int col = c % wide;
        switch (what) {
            case 0: return lies[row][col] - '0';
            case 1: return yards[row][col];
            case 2: return crop[row][col] < 0 ? -4 : crop[row][col];
            case 3: return stage[row][col];
            default: return owner[row][col];
        }
    }
}
