/** What the tests share: due() keeps count of what is wrong, finish() tells it. */
final class Checks {
    static final int BAD = -1, STATE = -2, FULL = -3, NONE = -4;
    private static int done = 0;
    private static int wrong = 0;

    private Checks() {
    }

    static void due(String call, long got, long want) {
        done++;
        if (got != want) {
            wrong++;
            if (wrong <= 40) {
                System.out.println(call + " answered " + got + ", due is " + want);
            }
        }
    }

    static void feed(SeasonYard x, String text) {
        for (int i = 0; i < text.length(); i++) {
            x.feed(text.charAt(i));
        }
    }

    /** What text() answers of a text. */
    static int told(SeasonYard x, String text) {
        x.end(0);
        feed(x, text);
        return x.text();
    }

    /** A new object that has taken a text. */
    static SeasonYard yard(String text) {
        SeasonYard x = new SeasonYard();
        int lines = told(x, text);
        if (lines < 0) {
            due("text() of " + text, lines, 0);
        }
        return x;
    }

    /** A text that is refused: its place, its fault. */
    static void refused(String text, int place, int fault) {
        SeasonYard x = new SeasonYard();
        due("text() of '" + text + "'", told(x, text), -10 - place);
        due("fault() of '" + text + "'", x.fault(), fault);
    }

    /** All that an object tells of itself and no call has to work out. */
    static String stateOf(SeasonYard x) {
        StringBuilder all = new StringBuilder();
        for (int what = 0; what < 8; what++) {
            all.append(x.rule(what)).append(' ').append(x.count(what)).append(' ');
        }
        for (int c = 0; c < 16; c++) {
            for (int what = 0; what < 5; what++) {
                all.append(x.cell(c, what)).append(' ');
            }
        }
        for (int e = 0; e < 32; e++) {
            all.append(x.edge(e));
        }
        for (int s = 0; s < 5; s++) {
            all.append(' ').append(x.stock(s, 0)).append(' ').append(x.stock(s, 1)).append(' ').append(x.ripe(s));
            for (int what = 0; what < 3; what++) {
                all.append(' ').append(x.law(s, what));
            }
        }
        for (int k = 0; k < 5; k++) {
            for (int w = 1; w < 6; w++) {
                all.append(' ').append(x.rows(k, w, 0)).append(' ').append(x.rows(k, w, 1));
            }
        }
        return all.append(' ').append(x.torn()).append(' ').append(x.fault()).toString();
    }

    static void finish(String name) {
        System.out.println(name + ": " + done + " answers looked at, " + wrong + " are not as due");
        if (wrong != 0) {
            System.exit(1);
        }
    }
}
