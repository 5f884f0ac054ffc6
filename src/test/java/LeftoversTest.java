import java.util.ArrayList;
import java.util.List;

/** What was asked, tried or refused ahead of a call leaves nothing behind: each answer is that of a new object. */
public final class LeftoversTest {
    /** Texts with crops at work, with many cells, with few, with nothing. */
    private static final String[] TEXTS = {
        "size 4 4;lay 15 2 9;lay 14 0 9;lay 13 0 9;sow 13 moss;sow 0 rose;lay 0 2 3;rule 2 0 1;rule 2 4 1;wall 1;stock 2 9 9;purse 40;own 13 2;",
        "size 2 3;lay 5 1 2;lay 4 2 9;sow 5 bean;sow 4 rose;sow 0 wheat;own 4 1;rule 2 1 1;rule 1 4 1;",
        "sow 3 rye;lay 3 3 1;lay 2 0 9;rule 0 4 2;rule 0 3 1;rule 3 0 4;",
        ""};

    private interface Ask {
        long of(SeasonYard x);
    }

    private static final List<Ask> ASKS = new ArrayList<>();

    public static void main(String[] args) {
        asks();
        for (String text : TEXTS) {
            for (int weeks = 0; weeks < 3; weeks++) {
                afterEachOther(text, weeks);
            }
        }
        againAfterMost();
        for (String before : TEXTS) {
            for (String text : TEXTS) {
                textAfterAsks(before, text);
            }
        }
        readAfterRefused();
        Checks.finish("LeftoversTest");
    }

    private static void due(String call, long got, long want) {
        Checks.due(call, got, want);
    }

    private static void asks() {
        for (int what = 0; what < 2; what++) {
            int w = what;
            for (int n : new int[] {1, 2, 12}) {
                ASKS.add(x -> x.comes(n, w));
                ASKS.add(x -> x.most(n, w));
                ASKS.add(x -> x.fence(n, w));
                ASKS.add(x -> x.drift(n, n, w));
            }
        }
        for (int cell = 0; cell < 16; cell++) {
            int c = cell;
            ASKS.add(x -> x.when(c));
            ASKS.add(x -> x.ahead(c, 1, 3));
            ASKS.add(x -> x.ahead(c, 2, 0));
            ASKS.add(x -> x.blame(c, 2));
            ASKS.add(x -> x.plan(c, 4, 0));
            ASKS.add(x -> x.plan(c, 3, 11));
            ASKS.add(x -> x.luck(c, 3, 3, 0));
        }
        for (int kind = 0; kind < 5; kind++) {
            int k = kind;
            ASKS.add(x -> x.rows(k, 3, 0));
            ASKS.add(x -> x.rows(k, 4, 1));
            ASKS.add(x -> x.sure(k, 2, 1));
        }
        ASKS.add(SeasonYard::again);
        ASKS.add(SeasonYard::spreads);
        ASKS.add(x -> x.sown(3));
        ASKS.add(x -> x.read(0, 0, 0, 1));
        ASKS.add(x -> x.read(1, 0, 0, 2));
    }

    /** A garden in which a sheet holds one laying that could be bought and one that could not. */
    private static SeasonYard made(String text, int weeks) {
        SeasonYard x = Checks.yard(text);
        x.sheet(1, 0, 6);
        x.put(1, 2, 1);
        x.put(1, 5, 10);
        x.week(weeks);
        x.see(0, 1);
        return x;
    }

    private static void afterEachOther(String text, int weeks) {
        long[] alone = new long[ASKS.size()];
        for (int i = 0; i < alone.length; i++) {
            alone[i] = ASKS.get(i).of(made(text, weeks));
        }
        for (int first = 0; first < alone.length; first++) {
            SeasonYard x = made(text, weeks);
            for (int i = 0; i < alone.length; i++) {
                ASKS.get(first).of(x);
                due("ask " + i + " behind ask " + first, ASKS.get(i).of(x), alone[i]);
            }
        }
    }

    private static void againAfterMost() {
        for (int size = 0; size < 9; size++) {
            SeasonYard x = Checks.yard("size " + (2 + size % 3) + " " + (2 + size / 3) + ";");
            due("26 nothing lies", x.again(), 1);
            x.most(1, 0);
            due("26 nothing lies, behind what was tried", x.again(), 1);
            x.drift(5, 3, 0);
            due("26 nothing lies, behind what was tried", x.again(), 1);
        }
    }

    /** A text tells all, whatever was asked ahead of it and however far that went. */
    private static void textAfterAsks(String before, String text) {
        String want = Checks.stateOf(Checks.yard(text));
        for (int i = 0; i < ASKS.size(); i++) {
            SeasonYard x = Checks.yard(before);
            ASKS.get(i).of(x);
            if (x.torn() == 0) {
                due("4 text", Checks.told(x, text) < 0 ? 1 : 0, 0);
                due("4 it tells all behind ask " + i, Checks.stateOf(x).equals(want) ? 1 : 0, 1);
            }
        }
    }

    private static void readAfterRefused() {
        SeasonYard x = Checks.yard("stock 1 9 1;purse 9;");
        x.sheet(0, 0, 6);
        int[] values = {0, 1, 2, 4, 1, 2};
        for (int i = 0; i < 6; i++) {
            x.put(0, i, values[i]);
        }
        due("42 the second is refused", x.read(0, 0, 0, 2), -21);
        due("42 none came", x.cell(0, 0), 4);
        due("24 none came", x.comes(0, 0), 0);
        due("42 none came", x.read(0, 0, 0, 0), 0);
        due("42 none came", x.cell(0, 0), 4);
        due("4 a FAULT ahead", Checks.told(x, "lay 0 3 9;?"), -20);
        due("22 nothing of it", x.ahead(0, 0, 0), 4);
        due("42 the first alone", x.read(0, 0, 0, 1), 1);
        due("42 PURSE", x.rule(3), 7);
    }
}
