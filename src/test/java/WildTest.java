import java.lang.management.ManagementFactory;

/** All calls with any arguments: none throws, what is refused and what only asks changes nothing, little is made. */
public final class WildTest {
    private static final int[] EDGES = {Integer.MIN_VALUE, Integer.MIN_VALUE + 1, -31, -5, -4, -3, -2, -1, 0, 1, 2, 3, 4, 5, 6, 7, 8, 9, 10, 11,
        12, 13, 14, 15, 16, 31, 32, 33, 39, 40, 41, 60, 61, 99, 127, 128, 160, 161, 999, 1000, 65536, Integer.MAX_VALUE - 1, Integer.MAX_VALUE};
    private static final int CALLS = 43;
    /** The first calls change something when they aren't refused, the others only ask. */
    private static final int CHANGING = 21;

    public static void main(String[] args) {
        for (int i = 0; i < 300; i++) {
            Dice dice = new Dice(i + 4711);
            SeasonYard x = i % 3 == 0 ? new SeasonYard() : Model.thrown(dice).made();
            for (int k = 0; k < 512; k++) {
                wild(x, dice);
            }
        }
        room();
        Checks.finish("WildTest");
    }

    private static int number(Dice dice) {
        int kind = dice.below(4);
        return kind == 0 ? EDGES[dice.below(EDGES.length)] : kind == 1 ? dice.below(16) : dice.below(5);
    }

    private static void wild(SeasonYard x, Dice dice) {
        int call = dice.below(CALLS);
        boolean isLooked = dice.below(8) == 0;
        String before = isLooked ? Checks.stateOf(x) : "";
        long got = called(x, call, dice);
        boolean mayChange = call == 2 || call < CHANGING && got >= 0 || call == 7 && got == -4;
        if (isLooked && !mayChange) {
            Checks.due("call " + call + " answered " + got + " and changed nothing", Checks.stateOf(x).equals(before) ? 1 : 0, 1);
        }
    }

    private static long called(SeasonYard x, int call, Dice dice) {
        int a = number(dice);
        int b = number(dice);
        int c = number(dice);
        int d = number(dice);
        switch (call) {
            case 0: return x.feed(a);
            case 1: return x.end(a);
            case 2: return x.text();
            case 3: return x.see(a, b);
            case 4: return x.forget(a);
            case 5: return x.lay(a, b, c);
            case 6: return x.bare(a);
            case 7: return x.sow(a, b);
            case 8: return x.own(a, b);
            case 9: return x.wall(a, b > 2);
            case 10: return x.store(a, b);
            case 11: return x.price(a, b);
            case 12: return x.fund(a);
            case 13: return x.bite(a, b);
            case 14: return x.week(a);
            case 15: return x.keep(a);
            case 16: return x.back(a);
            case 17: return x.sheet(a, b, c);
            case 18: return x.put(a, b, c);
            case 19: return x.read(a, b, c, d);
            case 20: return x.feed("size 23;wall lay 0".charAt(dice.below(18)));
            default: return asked(x, call, new int[] {a, b, c, d});
        }
    }

    private static long asked(SeasonYard x, int call, int[] n) {
        switch (call) {
            case 21: return x.fault();
            case 22: return x.rule(n[0]);
            case 23: return x.cell(n[0], n[1]);
            case 24: return x.edge(n[0]);
            case 25: return x.stock(n[0], n[1]);
            case 26: return x.law(n[0], n[1]);
            case 27: return x.ripe(n[0]);
            case 28: return x.ahead(n[0], n[1], n[2]);
            case 29: return x.spreads();
            case 30: return x.comes(n[0], n[1]);
            case 31: return x.when(n[0]);
            case 32: return x.again();
            case 33: return x.plan(n[0], n[1], n[2]);
            case 34: return x.most(n[0], n[1]);
            case 35: return x.fence(n[0], n[1]);
            case 36: return x.blame(n[0], n[1]);
            case 37: return x.luck(n[0], n[1], n[2], n[3]);
            case 38: return x.rows(n[0], n[1], n[2]);
            case 39: return x.sure(n[0], n[1], n[2]);
            case 40: return x.sown(n[0]);
            case 41: return x.drift(n[0], n[1], n[2]);
            default: return n[0] % 2 == 0 ? x.torn() : x.count(n[0]);
        }
    }

    /** All calls of a run live in one room: here the dearest ones of a run make next to nothing. */
    private static void room() {
        String text = "size 4 4;sow 0 wheat;sow 5 moss;lay 5 0 9;lay 6 2 9;rule 2 4 1;rule 0 2 2;";
        SeasonYard x = Checks.yard(text);
        com.sun.management.ThreadMXBean bean = (com.sun.management.ThreadMXBean) ManagementFactory.getThreadMXBean();
        long id = Thread.currentThread().getId();
        bean.getThreadAllocatedBytes(id);
        long before = bean.getThreadAllocatedBytes(id);
        for (int i = 0; i < 64; i++) {
            x.plan(0, 6, 0);
            x.most(12, 0);
            x.fence(12, 0);
            x.blame(0, 12);
            x.luck(0, 5, 8, 0);
            x.sown(5);
            x.drift(i, 60, 0);
            x.keep(0);
            x.read(0, 2, 0, 13);
            x.sheet(0, 2, 40);
            Checks.feed(x, text);
            x.text();
        }
        long made = bean.getThreadAllocatedBytes(id) - before;
        Checks.due("dear calls make " + made + " bytes, few enough", made < 100000 ? 1 : 0, 1);
    }
}
