import java.lang.reflect.InvocationTargetException;
import java.lang.reflect.Method;
import java.util.HashMap;
import java.util.Map;

/** All promises in long runs on one object: every call's answer against the Twin's, whatever came ahead of it. */
public final class TwinTest {
    /** A call, its share of the calls, the bounds of its numbers (C: of the cells that there are). */
    private static final String[] CALLS = {"end 1 0-3", "fault 1", "rule 2 0-5", "cell 6 C 0-4", "edge 2 0-31", "stock 2 0-3 0-1",
        "law 2 0-4 0-2", "ripe 2 0-2", "lay 12 C 0-3 1-9", "bare 1 C", "sow 8 C 0-4", "own 3 C 0-2", "wall 4 0-31 0-1", "store 4 0-3 0-99",
        "price 2 0-3 1-9", "fund 4 0-999", "bite 1 0-4 1-4", "week 6 0-3", "week 1 0-60", "ahead 4 C 0-60 0-4", "spreads 2", "comes 2 0-60 0-1",
        "when 2 C", "again 1", "plan 3 C 1-6 0-0", "plan 3 C 1-6 10-15", "most 1 1-12 0-1", "fence 2 1-12 0-1", "blame 3 C 1-12",
        "luck 3 C 0-10 1-8 0-1", "see 2 0-4 0-4", "forget 1 0-6", "rows 3 0-4 1-5 0-1", "sure 3 0-4 1-5 0-4", "sown 1 1-5", "drift 2 W 1-60 0-1",
        "keep 1 0-1", "back 1 0-1", "sheet 1 0-1 0-2 0-40", "put 2 0-1 0-39 0-9", "read 5 0-1 0-2 0-9 0-4", "torn 1", "count 3 0-7"};
    private static final String[] ASKED = {"week 2 1-1", "ahead 4 C 1-5 0-4", "spreads 2", "comes 2 1-6 0-1", "when 6 C", "again 1", "plan 4 C 1-6 0-0",
        "plan 3 C 2-6 10-11", "most 2 1-12 0-1", "fence 8 1-8 0-1", "blame 8 C 1-5", "luck 4 C 0-10 2-8 0-1", "drift 2 W 1-60 0-1", "wall 2 0-31 0-1",
        "keep 1 0-1", "back 1 0-1", "cell 2 C 0-4", "rule 1 0-5"};
    private static final int[] WILD = {Integer.MIN_VALUE, -65536, -256, -5, -4, -3, -2, -1, 0, 5, 7, 10, 13, 14, 16, 40, 41, 61, 100, 128, 256, 1000, 65536,
        Integer.MAX_VALUE - 2, Integer.MAX_VALUE};
    private static final Map<String, Method> FACE = new HashMap<>();

    private SeasonYard x = new SeasonYard();
    private Twin twin = new Twin();
    private final Dice dice;
    private final int run;
    private int done;

    private TwinTest(int run) {
        this.run = run;
        dice = new Dice(run + 31337);
    }

    public static void main(String[] args) {
        for (Method m : SeasonYard.class.getMethods()) {
            FACE.put(m.getName(), m);
        }
        int runs = args.length > 0 ? Integer.parseInt(args[0]) : 300;
        for (int run = 0; run < runs; run++) {
            new TwinTest(run).go();
        }
        Checks.finish("TwinTest");
    }

    private void go() {
        while (done < 512) {
            int kind = dice.below(100);
            if (done == 0 && run % 4 > 0) {
                tell(ruled());
            } else if (kind == 0) {
                tell(Texts.thrown(dice));
            } else if (kind < 3) {
                layings();
            } else if (kind < 4) {
                planted();
            } else {
                oneOf(CALLS);
            }
        }
    }

    private void tell(String text) {
        if (dice.below(4) > 0) {
            call("end", 0);
        }
        for (int i = 0; i < text.length(); i++) {
            call("feed", text.charAt(i));
        }
        if (dice.below(30) == 0) {
            call("feed", number("0-127"));
        }
        call("text");
        call("fault");
    }

    /** A text that is taken, with rules. */
    private String ruled() {
        StringBuilder text = new StringBuilder("size " + dice.between(2, 4) + " " + dice.between(2, 4) + ";");
        for (int i = dice.between(0, 5); i > 0; i--) {
            int a = dice.below(4);
            text.append("rule ").append(a).append(' ').append((a + dice.between(1, 4)) % 5).append(' ').append(dice.between(1, 2)).append(';');
        }
        return text.append("purse 99;").toString();
    }

    /** Much is laid, sown; then it is asked what comes of it. */
    private void planted() {
        for (int s = 0; s < 4; s++) {
            call("store", s, 99);
            call("price", s, dice.between(1, 3));
        }
        int few = dice.between(2, 4);
        int[] wanting = {2, 4, 3, 1};
        for (int c = 0; c < twin.cells(); c++) {
            int s = dice.below(few);
            if (dice.below(3) > 0) {
                call("fund", 99);
                call("lay", c, s, dice.between(1, 9));
            }
            if (dice.below(3) > 0) {
                call("sow", c, dice.below(2) == 0 ? wanting[s] : dice.below(5));
            }
        }
        for (int i = dice.between(10, 40); i > 0; i--) {
            oneOf(ASKED);
        }
    }

    /** A sheet with layings, most of which can come, and its reading. */
    private void layings() {
        int k = dice.below(2);
        int lane = dice.below(3);
        call("sheet", k, lane, dice.below(16));
        int from = dice.below(3);
        for (int i = 0; i < 4; i++) {
            call("put", k, from + 3 * i, number("C"));
            call("put", k, from + 3 * i + 1, number("0-3"));
            call("put", k, from + 3 * i + 2, number("1-3"));
        }
        call("read", k, dice.below(5) == 0 ? dice.below(3) : lane, from, dice.between(1, 5));
        call("torn");
        call("rule", 3);
    }

    private void oneOf(String[] calls) {
        int shares = 0;
        for (String c : calls) {
            shares += Integer.parseInt(c.split(" ")[1]);
        }
        int share = dice.below(shares);
        for (String c : calls) {
            String[] words = c.split(" ");
            share -= Integer.parseInt(words[1]);
            if (share < 0) {
                int[] numbers = new int[words.length - 2];
                for (int i = 0; i < numbers.length; i++) {
                    numbers[i] = words[i + 2].equals("W") ? dice.below(Integer.MAX_VALUE) * 2 + dice.below(2) : number(words[i + 2]);
                }
                call(words[0], numbers);
                return;
            }
        }
    }

    private int number(String bounds) {
        String[] ends = bounds.equals("C") ? new String[] {"0", String.valueOf(twin.cells() - 1)} : bounds.split("-");
        int low = Integer.parseInt(ends[0]);
        int high = Integer.parseInt(ends[1]);
        int kind = dice.below(60);
        return kind == 0 ? low - 1 : kind == 1 ? high + 1 : kind == 2 ? WILD[dice.below(WILD.length)] : dice.between(low, high);
    }

    private void call(String name, int... numbers) {
        done++;
        Object[] args = new Object[numbers.length];
        StringBuilder told = new StringBuilder();
        for (int i = 0; i < numbers.length; i++) {
            args[i] = numbers[i];
            told.append(i == 0 ? "" : ", ").append(numbers[i]);
        }
        if (name.equals("wall")) {
            args[1] = numbers[1] != 0;
        }
        long want = twin.call(name, numbers);
        try {
            long got = ((Number) FACE.get(name).invoke(x, args)).longValue();
            Checks.due("run " + run + ", call " + done + ": " + name + "(" + told + ")", got, want);
        } catch (InvocationTargetException | IllegalAccessException e) {
            Checks.due("run " + run + ", call " + done + ": " + name + "(" + told + ") threw " + e.getCause(), 1, 0);
        }
    }
}
