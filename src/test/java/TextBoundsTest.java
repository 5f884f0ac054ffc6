import java.util.ArrayList;
import java.util.List;

/** Promises 2 to 5: each bound that the document names for the tape, its tokens, its lines, its faults. */
public final class TextBoundsTest {
    /** Each line with the bounds of its numbers, told low, high one behind the other; K is a crop. */
    private static final String[] FORMS = {"size 2 4 2 4", "lay 0 15 0 3 1 9", "sow 0 15 K", "own 0 15 0 2", "wall 0 31",
        "rule 0 3 0 4 1 4", "stock 0 3 0 99 1 9", "purse 0 99"};
    /** A line of each form that is taken in the widest garden. */
    private static final String[] LINES = {"size 4 4 ;", "lay 5 1 2 ;", "sow 6 moss ;", "own 7 1 ;", "wall 8 ;", "rule 2 3 1 ;",
        "stock 1 20 3 ;", "purse 44 ;"};

    public static void main(String[] args) {
        tapeIsFull();
        tapeKeepsFirst();
        wholeTapeIsRead();
        faultAtTheLastPlaces();
        emptyTape();
        eachByte();
        figures();
        blanks();
        names();
        tokensOutOfPlace();
        numbersAtTheirBounds();
        keysToldTwice();
        onceAlone();
        rulesAtTheirBounds();
        cellsThatThereAreNot();
        edgesThatThereAreNot();
        orderOfFaults();
        tellsAll();
        faultChangesNothing();
        latestFault();
        Checks.finish("TextBoundsTest");
    }

    private static void due(String call, long got, long want) {
        Checks.due(call, got, want);
    }

    private static void taken(String text, int lines) {
        SeasonYard x = new SeasonYard();
        due("4 text '" + text + "'", Checks.told(x, text), lines);
        due("5 fault of '" + text + "'", x.fault(), 0);
    }

    private static String blanks(int n) {
        return " ".repeat(n);
    }

    private static void tapeIsFull() {
        SeasonYard x = new SeasonYard();
        Checks.feed(x, blanks(150) + "purse 12;");
        due("2 the last but one", x.count(2), 159);
        due("2 the last", x.feed(' '), 160);
        due("2 FULL", x.feed(' '), -3);
        due("2 FULL", x.feed('x'), -3);
        due("2 BAD ahead of FULL", x.feed(-1), -1);
        due("2 BAD ahead of FULL", x.feed(128), -1);
        due("2 what is refused is not there", x.count(2), 160);
        due("2 what is refused is not there", x.text(), 1);
        due("2 PURSE", x.rule(3), 12);
        due("2 the tape is empty again", x.feed('a'), 1);
        x.end(0);
        Checks.feed(x, blanks(160));
        due("3 one less", x.end(159), 160);
        due("2 room for one", x.feed(';'), 160);
        due("2 FULL again", x.feed(';'), -3);
        due("2 it came last", x.text(), -169);
    }

    private static void tapeKeepsFirst() {
        SeasonYard x = new SeasonYard();
        due("3 of none", x.end(0), 0);
        due("3 one of none", x.end(1), -1);
        due("3 below", x.end(-1), -1);
        Checks.feed(x, "purse 1;");
        due("3 one more than there are", x.end(9), -1);
        due("3 far more", x.end(160), -1);
        due("3 below", x.end(-1), -1);
        due("3 what is refused changes nothing", x.count(2), 8);
        due("3 all", x.end(8), 8);
        due("3 one less", x.end(7), 8);
        due("3 one less", x.count(2), 7);
        Checks.feed(x, "3;");
        due("3 the first ones", x.text(), 1);
        due("3 the first ones", x.rule(3), 13);
        Checks.feed(x, blanks(160));
        due("3 all of a full one", x.end(160), 160);
        due("3 one more than can be", x.end(161), -1);
        due("3 none of a full one", x.end(0), 160);
        due("3 none", x.count(2), 0);
    }

    /** As many lines as 160 bytes can tell. */
    private static void wholeTapeIsRead() {
        StringBuilder text = new StringBuilder("size4 4;");
        int lines = 1;
        for (int c = 0; c < 16; c++) {
            text.append("own").append(c).append(" 1;");
            lines++;
        }
        text.append("wall0;wall1;wall2;");
        taken(text.toString(), lines + 3);
        text.append(blanks(160 - text.length()));
        taken(text.toString(), lines + 3);
        taken(blanks(151) + "purse 01;", 1);
        taken(blanks(148) + "purse 99   ;", 1);
    }

    private static void faultAtTheLastPlaces() {
        Checks.refused(blanks(159) + ";", 159, 2);
        Checks.refused(blanks(159) + "?", 159, 1);
        Checks.refused(blanks(159) + "a", 159, 2);
        Checks.refused(blanks(155) + "purse", 160, 2);
        Checks.refused(blanks(151) + "purse 12 ", 160, 2);
        Checks.refused(blanks(151) + "purse 123", 157, 1);
        Checks.refused(blanks(151) + "lay 4 1 1;".substring(1), 151, 2);
        Checks.refused(blanks(150) + "lay 4 1 1;", 160, 6);
        Checks.refused(blanks(153) + "wall 2;", 160, 7);
        Checks.refused("?", 0, 1);
        Checks.refused("?" + blanks(159), 0, 1);
    }

    private static void emptyTape() {
        SeasonYard x = Checks.yard("size 3 3;lay 8 1 1;purse 7;");
        due("4 of no bytes", x.text(), 0);
        due("5 of no bytes", x.fault(), 0);
        due("4 as at first", Checks.stateOf(x).equals(Checks.stateOf(new SeasonYard())) ? 1 : 0, 1);
        x = Checks.yard("size 3 3;lay 8 1 1;purse 7;");
        due("4 of one blank", Checks.told(x, " "), 0);
        due("4 as at first", Checks.stateOf(x).equals(Checks.stateOf(new SeasonYard())) ? 1 : 0, 1);
        taken(blanks(160), 0);
    }

    /** What each byte alone is: a blank, a token that can not stand there, no token. */
    private static void eachByte() {
        for (int c = 0; c < 128; c++) {
            SeasonYard x = new SeasonYard();
            due("2 byte " + c, x.feed(c), 1);
            boolean isToken = c >= 'a' && c <= 'z' || c >= '0' && c <= '9' || c == ';';
            due("4 byte " + c, x.text(), c == ' ' ? 0 : -10);
            due("5 byte " + c, x.fault(), c == ' ' ? 0 : isToken ? 2 : 1);
            due("4 no more of it", x.count(2), 0);
            if (!isToken && c != ' ') {
                Checks.refused("purse" + (char) c + "1;", 5, 1);
                Checks.refused("purse 1" + (char) c + ";", 7, 1);
                Checks.refused("purse 1;" + (char) c, 8, 1);
            }
        }
    }

    private static void figures() {
        taken("purse 0;", 1);
        taken("purse 00;", 1);
        taken("purse 9;", 1);
        taken("purse 09;", 1);
        taken("purse 99;", 1);
        Checks.refused("purse 000;", 6, 1);
        Checks.refused("purse 009;", 6, 1);
        Checks.refused("purse 100;", 6, 1);
        Checks.refused("purse 0123456789012345678901234567890;", 6, 1);
        Checks.refused("123", 0, 1);
        Checks.refused("12", 0, 2);
        Checks.refused("sow 0 123;", 6, 1);
        Checks.refused("purse 1 123;", 8, 1);
        Checks.refused("lay 123;", 4, 1);
        Checks.refused("lay 12 3;", 8, 2);
        Checks.refused("lay 1 23;", 6, 3);
        due("4 the figures", Checks.yard("purse 08;").rule(3), 8);
        due("4 the figures", Checks.yard("purse 80;").rule(3), 80);
    }

    private static void blanks() {
        for (String line : LINES) {
            String wide = line.replace(" ", "   ");
            taken("size 4 4 ;".equals(line) ? wide : "size 4 4;" + wide, "size 4 4 ;".equals(line) ? 1 : 2);
            String tight = line.replaceAll("([a-z]) ", "$1").replaceAll(" ([a-z;])", "$1");
            taken("size 4 4 ;".equals(line) ? tight : "size4 4;" + tight, "size 4 4 ;".equals(line) ? 1 : 2);
        }
        taken("  " + String.join("", LINES) + "  ", 8);
        Checks.refused("purse\t1;", 5, 1);
        Checks.refused("purse 1;\r\n", 8, 1);
        Checks.refused("pur se 1;", 0, 2);
        Checks.refused("purse 1 1;", 8, 2);
        Checks.refused("sow 0 mo ss;", 6, 2);
        Checks.refused("sow 0 mosss;", 6, 2);
        Checks.refused("sow 0 mos;", 6, 2);
        Checks.refused("sow 0 mosspurse 1;", 6, 2);
        Checks.refused("ppurse 1;", 0, 2);
        Checks.refused("purs 1;", 0, 2);
        Checks.refused("sow 0 purse;", 6, 2);
        Checks.refused("moss 0;", 0, 2);
    }

    /** Each name with one letter of it another one, one less, one more, is no name of a line or crop. */
    private static void names() {
        for (String name : new String[] {"size", "lay", "sow", "own", "wall", "rule", "stock", "purse"}) {
            for (String other : others(name)) {
                Checks.refused(other + " 1 1 1;", 0, 2);
            }
        }
        for (String crop : CROPS) {
            taken("sow 0 " + crop + ";", 1);
            for (String other : others(crop)) {
                Checks.refused("sow 0 " + other + ";", 6, 2);
            }
        }
    }

    private static final String[] CROPS = {"wheat", "rye", "moss", "rose", "bean"};

    private static List<String> others(String name) {
        List<String> all = new ArrayList<>();
        for (int i = 0; i < name.length(); i++) {
            char next = (char) (name.charAt(i) == 'z' ? 'a' : name.charAt(i) + 1);
            all.add(name.substring(0, i) + next + name.substring(i + 1));
            all.add(name.substring(0, i) + name.substring(i + 1));
            all.add(name.substring(0, i) + name.charAt(i) + name.substring(i));
        }
        all.add("a" + name);
        all.add(name + "a");
        all.add(name + name);
        return all;
    }

    /** In each line at each token: the end, and what is another token or none. */
    private static void tokensOutOfPlace() {
        for (String line : LINES) {
            String[] tokens = line.split(" ");
            StringBuilder ahead = new StringBuilder(line.startsWith("size") ? "" : "size 4 4;");
            for (int i = 0; i < tokens.length; i++) {
                int at = ahead.length();
                if (i > 0) {
                    Checks.refused(ahead.toString(), at, 2);
                    Checks.refused(ahead + "  ", at + 2, 2);
                }
                boolean isNumber = Character.isDigit(tokens[i].charAt(0));
                for (String other : new String[] {"1", ";", "a", "zebra", "size", "rye"}) {
                    boolean isLike = Character.isDigit(other.charAt(0)) == isNumber && isNumber;
                    isLike |= other.equals(tokens[i]) || other.equals("size") && i == 0 || other.equals("rye") && tokens[i].equals("moss");
                    if (!isLike) {
                        Checks.refused(ahead + other, at, 2);
                        Checks.refused(ahead + other + " " + line, at, 2);
                    }
                }
                for (String none : new String[] {"?", "A", "111", "0000", ":", "{", "`", "/"}) {
                    Checks.refused(ahead + none, at, 1);
                    Checks.refused(ahead + " " + none + ";", at + 1, 1);
                }
                ahead.append(tokens[i]).append(' ');
            }
            Checks.refused(ahead + ";", ahead.length(), 2);
            Checks.refused(ahead + "1", ahead.length(), 2);
        }
    }

    /** Each number of each line at its bounds, the others as they are in a line that is taken. */
    private static void numbersAtTheirBounds() {
        for (int i = 0; i < FORMS.length; i++) {
            String[] bounds = FORMS[i].split(" ");
            String[] tokens = LINES[i].split(" ");
            for (int k = 1; k < tokens.length - 1; k++) {
                if (bounds[2 * k - 1].equals("K")) {
                    continue;
                }
                int low = Integer.parseInt(bounds[2 * k - 1]);
                int high = Integer.parseInt(bounds[2 * k]);
                for (int v = 0; v < 100; v++) {
                    numberDue(tokens, k, v, v >= low && v <= high);
                }
            }
        }
    }

    private static void numberDue(String[] tokens, int k, int v, boolean isTaken) {
        String[] changed = tokens.clone();
        changed[k] = Integer.toString(v);
        boolean isSize = tokens[0].equals("size");
        boolean isRuleOverItself = tokens[0].equals("rule") && changed[1].equals(changed[2]);
        boolean isNoEdge = tokens[0].equals("wall") && v < 32 && (v % 8 == 6 || v > 24 && v % 2 == 1);
        String ahead = isSize ? "" : "size 4 4;";
        StringBuilder text = new StringBuilder(ahead);
        int place = 0;
        for (int i = 0; i < changed.length; i++) {
            place = i == (isRuleOverItself && isTaken ? 2 : k) ? text.length() : place;
            text.append(changed[i]).append(i < changed.length - 1 ? " " : "");
        }
        if (!isTaken) {
            Checks.refused(text.toString(), place, 3);
        } else if (isRuleOverItself) {
            Checks.refused(text.toString(), place, 4);
        } else if (isNoEdge) {
            Checks.refused(text.toString(), text.length(), 7);
        } else {
            taken(text.toString(), isSize ? 1 : 2);
        }
    }

    /** Each cell, edge, season told twice by a line, and beside it each other one. */
    private static void keysToldTwice() {
        String[] names = {"lay ", "sow ", "own ", "wall ", "stock "};
        String[] rests = {" 0 1;", " rye;", " 0;", ";", " 0 1;"};
        int[] most = {15, 15, 15, 31, 3};
        for (int i = 0; i < names.length; i++) {
            for (int first = 0; first <= most[i]; first++) {
                String line = "size 4 4;" + names[i] + first + rests[i];
                for (int then = 0; then <= most[i]; then++) {
                    String text = line + names[i] + then + rests[i];
                    if (then == first) {
                        Checks.refused(text, (line + names[i]).length(), 4);
                        Checks.refused(line + names[i] + (then < 10 ? "0" : "") + then + "?", (line + names[i]).length(), 4);
                    } else if (i != 3) {
                        taken(text, 3);
                    }
                }
            }
        }
        taken("size 4 4;lay 3 0 1;sow 3 rye;own 3 1;wall 3;stock 3 0 1;rule 3 0 1;", 7);
    }

    private static void onceAlone() {
        Checks.refused("size 2 2;size 2 2;", 9, 4);
        Checks.refused("size 2 2;purse 0;size", 17, 4);
        Checks.refused("purse 0;purse 0;", 8, 4);
        Checks.refused("purse 0;size 2 2; purse ?", 18, 4);
        taken("purse 0;size 2 2;", 2);
    }

    private static void rulesAtTheirBounds() {
        StringBuilder text = new StringBuilder();
        for (int k = 1; k <= 5; k++) {
            text.append("rule 0 1 1;");
            taken(text.toString(), k);
            due("4 RULES", Checks.yard(text.toString()).rule(2), k);
            due("10 the last", Checks.yard(text.toString()).law(k - 1, 1), 1);
            due("10 behind the last", Checks.yard(text.toString()).law(k, 1), -1);
        }
        Checks.refused(text + "rule 0 1 1;", text.length(), 5);
        Checks.refused(text + "rule", text.length(), 5);
        Checks.refused(text + "rule ?", text.length(), 5);
        Checks.refused(text + "rules 0 1 1;", text.length(), 2);
        Checks.refused(text + "purse 1;rule 0 1 1;", text.length() + 8, 5);
        for (int a = 0; a < 4; a++) {
            for (int b = 0; b < 5; b++) {
                String rule = "rule " + a + " " + b + " 4;";
                if (a == b) {
                    Checks.refused(rule, 7, 4);
                } else {
                    taken(rule, 1);
                }
            }
        }
    }

    /** In a garden of each size each cell told by each line that tells of one, the size ahead of it or behind. */
    private static void cellsThatThereAreNot() {
        for (int size = 0; size < 9; size++) {
            int wide = 2 + size % 3;
            int high = 2 + size / 3;
            String told = "size " + wide + " " + high + ";";
            for (int c = 0; c < 16; c++) {
                String[] lines = {"lay " + c + " 3 9;", "sow " + c + " rye;", "own " + c + " 2;"};
                int[] want = {9 - 4, 1, -4 + 20};
                for (int i = 0; i < lines.length; i++) {
                    String line = lines[i];
                    if (c < wide * high) {
                        taken(told + line, 2);
                        taken(line + told, 2);
                        SeasonYard x = Checks.yard(told + line);
                        due("4 lay, sow, own", x.cell(c, 1) + x.cell(c, 2) + 10 * x.cell(c, 4), want[i]);
                    } else {
                        Checks.refused(told + line, (told + line).length(), 6);
                        Checks.refused(line + told + " ", (told + line).length() + 1, 6);
                    }
                }
            }
        }
        taken("lay 3 0 1;", 1);
        Checks.refused("lay 4 0 1;", 10, 6);
    }

    private static void edgesThatThereAreNot() {
        for (int size = 0; size < 9; size++) {
            int wide = 2 + size % 3;
            int high = 2 + size / 3;
            Model m = new Model(wide, high);
            String told = "size " + wide + " " + high + ";";
            for (int e = 0; e < 32; e++) {
                String line = "wall " + e + ";";
                if (m.isEdge(e)) {
                    taken(told + line, 2);
                    due("8 edge", Checks.yard(line + told).edge(e), 1);
                } else {
                    Checks.refused(told + line, (told + line).length(), 7);
                    Checks.refused(line + told, (told + line).length(), 7);
                }
            }
        }
    }

    private static void orderOfFaults() {
        Checks.refused("wall 2;lay 4 0 1;", 17, 6);
        Checks.refused("lay 4 0 1;wall 2;", 17, 6);
        Checks.refused("lay 4 0 1;wall 2;?", 17, 1);
        Checks.refused("lay 4 0 1;wall 2;a", 17, 2);
        Checks.refused("lay 4 0 1;wall 32;", 15, 3);
        Checks.refused("lay 4 0 1;sow 4 rye;lay 4", 24, 4);
        Checks.refused("rule 4 4 1;", 5, 3);
        Checks.refused("rule 1 1 9;", 7, 4);
        Checks.refused("rule 1 5 9;", 7, 3);
        Checks.refused("lay 16 9 0;", 4, 3);
        Checks.refused("lay 0 9 0;", 6, 3);
        Checks.refused("lay 0 3 0;", 8, 3);
        Checks.refused("size 9 ?;", 5, 3);
        Checks.refused("size 9;", 5, 3);
        Checks.refused("size ? 9;", 5, 1);
        Checks.refused("wall 1;wall 1?", 12, 4);
        Checks.refused("wall 1;wall 32", 12, 3);
        Checks.refused("sow 0 rye;sow 0 ?", 14, 4);
    }

    private static final String OTHER = "size 3 4;lay 11 2 3;lay 0 2 9;sow 11 rose;sow 0 bean;sow 1 moss;own 11 2;wall 0;rule 2 4 1;stock 2 9 2;purse 9;";

    private static SeasonYard other() {
        SeasonYard x = Checks.yard(OTHER);
        x.sheet(0, 2, 6);
        x.read(0, 1, 0, 1);
        x.week(3);
        x.see(1, 1);
        x.keep(0);
        x.lay(5, 2, 1);
        x.keep(1);
        return x;
    }

    /** A text that is taken: what no line tells is as at first, and nothing is left but the sheets and torn(). */
    private static void tellsAll() {
        String[] texts = {"", "size 3 4;", "lay 0 0 1;", "sow 0 rye;", "own 0 1;", "wall 0;", "rule 0 1 1;", "stock 0 5 5;", "purse 5;"};
        for (String text : texts) {
            SeasonYard x = other();
            due("11 RIPE ahead of it", x.ripe(2), 1);
            due("4 text", Checks.told(x, text), text.isEmpty() ? 0 : 1);
            SeasonYard fresh = Checks.yard(text);
            fresh.sheet(0, 2, 6);
            fresh.read(0, 1, 0, 1);
            due("4 '" + text + "' tells all", Checks.stateOf(x).equals(Checks.stateOf(fresh)) ? 1 : 0, 1);
            due("4 nothing is SEEN", x.count(0), 0);
            due("4 IMAGES are gone", x.count(1), 0);
            due("4 IMAGES are gone", x.back(0), -2);
            due("4 IMAGES are gone", x.back(1), -2);
            due("4 SHEETS stay", x.count(3), 6);
            due("4 what torn() tells stays", x.torn(), 3);
            due("4 WEEK", x.rule(4), 0);
            due("4 SPOILED", x.rule(5), 0);
            due("4 RIPE", x.ripe(2), 0);
        }
    }

    /** A text with each of the faults: all is as it was but the tape and fault(). */
    private static void faultChangesNothing() {
        String five = "rule 0 1 1;rule 0 1 1;rule 0 1 1;rule 0 1 1;rule 0 1 1;";
        String ahead = "purse 1;lay 0 0 1;";
        String[] texts = {ahead + "?", ahead + "sow", ahead + "wall 32;", ahead + "lay 0 0 1;", five + "rule 0 1 1;", ahead + "own 4 0;",
            ahead + "wall 2;"};
        for (int i = 0; i < texts.length; i++) {
            SeasonYard x = other();
            SeasonYard y = other();
            due("4 a fault", Checks.told(x, texts[i]) <= -10 ? 1 : 0, 1);
            due("5 fault", x.fault(), i + 1);
            due("4 the tape is empty", x.count(2), 0);
            String state = Checks.stateOf(x);
            state = state.substring(0, state.length() - 1) + "0";
            due("4 fault " + (i + 1) + " changes nothing", state.equals(Checks.stateOf(y)) ? 1 : 0, 1);
            due("4 IMAGES stay", x.back(0), 3);
            due("4 IMAGES stay", x.back(1), 3);
            due("4 the text is gone", x.text(), 0);
            due("5 no fault", x.fault(), 0);
        }
    }

    private static void latestFault() {
        SeasonYard x = new SeasonYard();
        due("5 none yet", x.fault(), 0);
        Checks.feed(x, "?");
        due("5 none yet", x.fault(), 0);
        due("4 text", x.text(), -10);
        due("5 the latest", x.fault(), 1);
        due("5 the latest", x.fault(), 1);
        x.feed('a');
        x.week(1);
        x.keep(0);
        x.back(0);
        x.end(0);
        due("5 it stays till the next text", x.fault(), 1);
        due("4 text", Checks.told(x, "a"), -10);
        due("5 the latest", x.fault(), 2);
        due("4 text", Checks.told(x, ""), 0);
        due("5 none", x.fault(), 0);
    }
}
