import java.util.ArrayList;
import java.util.Arrays;
import java.util.List;

/** A text read for the Twin: all tokens first, up to the first that is none, then the lines. */
final class TwinText {
    static final String[] NAMES = {"size", "lay", "sow", "own", "wall", "rule", "stock", "purse"};
    private static final List<String> CROPS = List.of("wheat", "rye", "moss", "rose", "bean");
    private static final int[][][] BOUNDS = {{{2, 4}, {2, 4}}, {{0, 15}, {0, 3}, {1, 9}}, {{0, 15}, null}, {{0, 15}, {0, 2}},
        {{0, 31}}, {{0, 3}, {0, 4}, {1, 4}}, {{0, 3}, {0, 99}, {1, 9}}, {{0, 999}}};

    final List<int[]> lines = new ArrayList<>();
    int fault;
    int place;

    private final String text;
    private final List<String> tokens = new ArrayList<>();
    private final List<Integer> places = new ArrayList<>();
    /** How many tokens have been taken. */
    private int taken;

    TwinText(String text) {
        this.text = text;
        split();
        while (fault == 0 && !tokens.get(taken).equals("end")) {
            line();
        }
        if (fault == 0) {
            whole();
        }
    }

    /** A name bears a sign ahead of it, so that no name is taken for the end or for what is wrong. */
    private void split() {
        int at = 0;
        while (at < text.length()) {
            int from = at;
            char c = text.charAt(at++);
            if (c == ' ') {
                continue;
            }
            boolean isName = c >= 'a' && c <= 'z';
            boolean isNumber = c >= '0' && c <= '9';
            while (at < text.length() && (isName && Character.isLowerCase(text.charAt(at)) || isNumber && Character.isDigit(text.charAt(at)))) {
                at++;
            }
            String word = text.substring(from, at);
            places.add(from);
            tokens.add(isName ? "'" + word : isNumber && word.length() < 3 || c == ';' ? word : "wrong");
        }
        places.add(text.length());
        tokens.add("end");
    }

    private void fail(int number) {
        fault = number;
        place = places.get(taken);
    }

    private String token() {
        if (tokens.get(taken).equals("wrong")) {
            fail(1);
        }
        return tokens.get(taken);
    }

    private void line() {
        String name = token();
        if (fault != 0) {
            return;
        }
        int form = name.startsWith("'") ? Arrays.asList(NAMES).indexOf(name.substring(1)) : -1;
        long same = lines.stream().filter(l -> l[0] == form).count();
        if (form < 0) {
            fail(2);
        } else if ((form == 0 || form == 7) && same == 1) {
            fail(4);
        } else if (form == 5 && same == 5) {
            fail(5);
        }
        int[] line = new int[4];
        line[0] = form;
        if (fault == 0) {
            taken++;
            fields(line);
        }
        if (fault == 0 && !token().equals(";") && fault == 0) {
            fail(2);
        }
        if (fault == 0) {
            taken++;
            lines.add(line);
        }
    }

    private void fields(int[] line) {
        int[][] bounds = BOUNDS[line[0]];
        for (int i = 0; i < bounds.length && fault == 0; i++) {
            String word = token();
            if (fault != 0) {
                return;
            }
            if (bounds[i] == null) {
                line[i + 1] = word.startsWith("'") ? CROPS.indexOf(word.substring(1)) : -1;
                if (line[i + 1] < 0) {
                    fail(2);
                }
            } else if (!Character.isDigit(word.charAt(0))) {
                fail(2);
            } else {
                line[i + 1] = Integer.parseInt(word);
                number(line, i, bounds[i]);
            }
            taken += fault == 0 ? 1 : 0;
        }
    }

    private void number(int[] line, int i, int[] bounds) {
        boolean isKey = i == 0 && List.of(1, 2, 3, 4, 6).contains(line[0]);
        if (line[i + 1] < bounds[0] || line[i + 1] > bounds[1]) {
            fail(3);
        } else if (isKey && lines.stream().anyMatch(l -> l[0] == line[0] && l[1] == line[1]) || line[0] == 5 && i == 1 && line[1] == line[2]) {
            fail(4);
        }
    }

    private void whole() {
        int[] size = lines.stream().filter(l -> l[0] == 0).findFirst().orElse(new int[] {0, 2, 2});
        int cells = size[1] * size[2];
        if (lines.stream().anyMatch(l -> l[0] > 0 && l[0] < 4 && l[1] >= cells)) {
            fail(6);
        } else if (lines.stream().anyMatch(l -> l[0] == 4 && !(l[1] / 2 < cells && (l[1] % 2 == 0 ? l[1] / 2 % size[1] < size[1] - 1 : l[1] / 2 + size[1] < cells)))) {
            fail(7);
        }
    }
}
