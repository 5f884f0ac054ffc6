import java.util.ArrayList;
import java.util.HashSet;
import java.util.List;
import java.util.Set;
import java.util.regex.Matcher;
import java.util.regex.Pattern;

/** Promises 4 and 5 against a reader of another make, over texts by dice, whole ones and spoiled ones. */
public final class TextModelTest {
    private static final Pattern TOKEN = Pattern.compile(" *(?:([a-z]+)|([0-9]+)|(;)|\\z)");
    private static final String[] FORMS = Texts.FORMS;

    private static final class Fault extends Exception {
        final int number;
        final int place;

        Fault(int number, int place) {
            this.number = number;
            this.place = place;
        }
    }

    private final String text;
    private int at;
    private int from;
    private String token;
    private final Set<String> told = new HashSet<>();
    private final List<int[]> lines = new ArrayList<>();
    private int wide = 2;
    private int high = 2;

    private TextModelTest(String text) {
        this.text = text;
    }

    private void move() throws Fault {
        Matcher m = TOKEN.matcher(text);
        m.region(at, text.length());
        if (!m.lookingAt() || m.group(2) != null && m.group(2).length() > 2) {
            int first = at;
            while (text.charAt(first) == ' ') {
                first++;
            }
            throw new Fault(1, first);
        }
        token = m.group().trim();
        from = m.end() - token.length();
        at = m.end();
    }

    private static int formOf(String name) {
        for (int i = 0; i < FORMS.length; i++) {
            if (FORMS[i].startsWith(name + " ")) {
                return i;
            }
        }
        return -1;
    }

    private void readAll() throws Fault {
        for (move(); !token.isEmpty(); move()) {
            readLine();
        }
        Model m = new Model(wide, high);
        for (int pass = 6; pass <= 7; pass++) {
            for (int[] line : lines) {
                boolean isCell = line[0] >= 1 && line[0] <= 3;
                if (pass == 6 && isCell && line[1] >= wide * high || pass == 7 && line[0] == 4 && !m.isEdge(line[1])) {
                    throw new Fault(pass, text.length());
                }
            }
        }
    }

    private void readLine() throws Fault {
        String name = token;
        int form = formOf(name);
        if (form < 0) {
            throw new Fault(2, from);
        }
        int same = 0;
        for (int[] line : lines) {
            same += line[0] == form ? 1 : 0;
        }
        if ((form == 0 || form == 7) && same > 0) {
            throw new Fault(4, from);
        }
        if (form == 5 && same == 5) {
            throw new Fault(5, from);
        }
        String[] fields = FORMS[form].split(" ");
        int[] line = new int[fields.length];
        line[0] = form;
        for (int i = 1; i < fields.length; i++) {
            move();
            line[i] = valueOf(fields[i]);
            if (fields[i].endsWith("!") && !told.add(name + line[i]) || form == 5 && i == 2 && line[2] == line[1]) {
                throw new Fault(4, from);
            }
        }
        move();
        if (!token.equals(";")) {
            throw new Fault(2, from);
        }
        if (form == 0) {
            wide = line[1];
            high = line[2];
        }
        lines.add(line);
    }

    private int valueOf(String field) throws Fault {
        if (field.equals("K")) {
            for (int k = 0; k < 5; k++) {
                if (Model.NAMES[k].equals(token)) {
                    return k;
                }
            }
            throw new Fault(2, from);
        }
        if (!token.matches("[0-9]+")) {
            throw new Fault(2, from);
        }
        String[] bounds = field.replace("!", "").split("-");
        int v = Integer.parseInt(token);
        if (v < Integer.parseInt(bounds[0]) || v > Integer.parseInt(bounds[1])) {
            throw new Fault(3, from);
        }
        return v;
    }

    public static void main(String[] args) {
        int[] faults = new int[8];
        for (int i = 0; i < 30000; i++) {
            String text = Texts.thrown(new Dice(i));
            TextModelTest model = new TextModelTest(text);
            SeasonYard x = new SeasonYard();
            int got = Checks.told(x, text);
            try {
                model.readAll();
                Checks.due("text '" + text + "'", got, model.lines.size());
                Checks.due("fault '" + text + "'", x.fault(), 0);
                faults[0]++;
                look(model, x);
            } catch (Fault f) {
                Checks.due("text '" + text + "'", got, -10 - f.place);
                Checks.due("fault '" + text + "'", x.fault(), f.number);
                faults[f.number]++;
            }
        }
        for (int k = 0; k < 8; k++) {
            Checks.due("texts with fault " + k + " are many", faults[k] > 50 ? 1 : 0, 1);
        }
        Checks.finish("TextModelTest");
    }

    /** Whether what a text told is there. */
    private static void look(TextModelTest model, SeasonYard x) {
        int rules = 0;
        int walls = 0;
        int lays = 0;
        Checks.due("size", 10 * x.rule(0) + x.rule(1), 10 * model.wide + model.high);
        for (int[] l : model.lines) {
            switch (l[0]) {
                case 1:
                    lays++;
                    Checks.due("lay", 10 * x.cell(l[1], 0) + x.cell(l[1], 1), 10 * l[2] + l[3]);
                    break;
                case 2:
                    Checks.due("sow", x.cell(l[1], 2), l[2]);
                    break;
                case 3:
                    Checks.due("own", x.cell(l[1], 4), l[2]);
                    break;
                case 4:
                    walls++;
                    Checks.due("wall", x.edge(l[1]), 1);
                    break;
                case 5:
                    Checks.due("rule", 100 * x.law(rules, 0) + 10 * x.law(rules, 1) + x.law(rules, 2), 100 * l[1] + 10 * l[2] + l[3]);
                    rules++;
                    break;
                case 6:
                    Checks.due("stock", 10 * x.stock(l[1], 0) + x.stock(l[1], 1), 10 * l[2] + l[3]);
                    break;
                case 7:
                    Checks.due("purse", x.rule(3), l[1]);
                    break;
                default:
                    break;
            }
        }
        Checks.due("walls", x.count(7), walls);
        Checks.due("rules", x.rule(2), rules);
        Checks.due("bare", x.count(4), model.wide * model.high - lays);
    }
}
