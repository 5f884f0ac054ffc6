/** Promises 1 to 5: a new object, the tape and its text. */
public final class TextTest {
    public static void main(String[] args) {
        newObject();
        feed();
        end();
        takenText();
        tokens();
        outOfPlace();
        outOfBounds();
        twice();
        sixthRule();
        behindAll();
        firstFault();
        faultKeepsAll();
        Checks.finish("TextTest");
    }

    private static void due(String call, long got, long want) {
        Checks.due(call, got, want);
    }

    private static void newObject() {
        SeasonYard x = new SeasonYard();
        due("BAD", SeasonYard.BAD, -1);
        due("STATE", SeasonYard.STATE, -2);
        due("FULL", SeasonYard.FULL, -3);
        due("NONE", SeasonYard.NONE, -4);
        due("1 WIDE", x.rule(0), 2);
        due("1 HIGH", x.rule(1), 2);
        for (int what = 2; what < 6; what++) {
            due("1 rule " + what, x.rule(what), 0);
        }
        for (int c = 0; c < 4; c++) {
            due("1 SEASON", x.cell(c, 0), 4);
            due("1 YARDS", x.cell(c, 1), 0);
            due("1 CROP", x.cell(c, 2), -4);
            due("1 STAGE", x.cell(c, 3), 0);
            due("1 OWNER", x.cell(c, 4), 0);
            due("1 STOCK", x.stock(c, 0), 0);
            due("1 PRICE", x.stock(c, 1), 1);
            due("1 sheet", x.put(c, 0, 0), -11);
        }
        due("1 count 0", x.count(0), 0);
        due("1 count 1", x.count(1), 0);
        due("1 count 2", x.count(2), 0);
        due("1 count 3", x.count(3), -4);
        due("1 count 4", x.count(4), 4);
        due("1 count 5", x.count(5), 0);
        due("1 count 7", x.count(7), 0);
        due("1 fault", x.fault(), 0);
        due("1 torn", x.torn(), 0);
    }

    private static void feed() {
        SeasonYard x = new SeasonYard();
        due("2 below", x.feed(-1), -1);
        due("2 above", x.feed(128), -1);
        due("2 lowest", x.feed(0), 1);
        due("2 highest", x.feed(127), 2);
        for (int i = 3; i <= 160; i++) {
            due("2 feed", x.feed(32), i);
        }
        due("2 full", x.feed(32), -3);
        due("2 BAD ahead of FULL", x.feed(128), -1);
        due("2 count", x.count(2), 160);
    }

    private static void end() {
        SeasonYard x = new SeasonYard();
        due("3 nothing", x.end(0), 0);
        due("3 more than there are", x.end(1), -1);
        Checks.feed(x, "purse 12;x");
        due("3 below", x.end(-1), -1);
        due("3 above", x.end(11), -1);
        due("3 stays", x.count(2), 10);
        due("3 all", x.end(10), 10);
        due("3 less", x.end(9), 10);
        due("3 the first ones", x.text(), 1);
        due("3 the first ones", x.rule(3), 12);
    }

    private static void takenText() {
        SeasonYard x = Checks.yard("size 2 4;lay 7 3 9;sow 7 bean;own 7 2;wall 12;rule 0 4 4;stock 3 99 9;purse 99;");
        due("4 WIDE", x.rule(0), 2);
        due("4 HIGH", x.rule(1), 4);
        due("4 RULES", x.rule(2), 1);
        due("4 PURSE", x.rule(3), 99);
        due("4 SEASON", x.cell(7, 0), 3);
        due("4 YARDS", x.cell(7, 1), 9);
        due("4 CROP", x.cell(7, 2), 4);
        due("4 OWNER", x.cell(7, 4), 2);
        due("4 WALL", x.edge(12), 1);
        due("4 a", x.law(0, 0), 0);
        due("4 b", x.law(0, 1), 4);
        due("4 n", x.law(0, 2), 4);
        due("4 STOCK", x.stock(3, 0), 99);
        due("4 PRICE", x.stock(3, 1), 9);
        due("4 the tape is empty", x.count(2), 0);
        x.week(2);
        x.see(0, 0);
        x.keep(0);
        x.sheet(0, 2, 5);
        x.read(0, 2, 4, 1);
        due("4 no line", x.text(), 0);
        due("5 no line", x.fault(), 0);
        due("4 sheets stay", x.count(3), 5);
        due("4 torn stays", x.torn(), 2);
        x.sheet(0, 0, 0);
        SeasonYard fresh = new SeasonYard();
        fresh.sheet(0, 0, 0);
        fresh.read(0, 0, 0, 1);
        due("4 all else is as at first", Checks.stateOf(x).equals(Checks.stateOf(fresh)) ? 1 : 0, 1);
        due("4 images are gone", x.back(0), -2);
        due("4 many lines", Checks.told(x, "wall 0;wall 1;wall 3;wall 4;lay 0 0 1;sow 0 rye;own 0 1;"), 7);
        String[] crops = {"wheat", "rye", "moss", "rose", "bean"};
        for (int k = 0; k < 5; k++) {
            due("4 sow", Checks.yard("sow 3 " + crops[k] + ";").cell(3, 2), k);
        }
    }

    private static void tokens() {
        SeasonYard x = new SeasonYard();
        due("4 blanks", Checks.told(x, "  size   4  3 ; purse 7;   "), 2);
        due("4 WIDE", x.rule(0), 4);
        due("4 none is needed", Checks.told(x, "size3 2;sow5moss;purse42;lay1 02 03;"), 4);
        due("4 CROP", x.cell(5, 2), 2);
        due("4 00 ahead", x.cell(1, 1), 3);
        Checks.refused("size 32;", 5, 3);
        Checks.refused("size 2 2;\nwall 0;", 9, 1);
        Checks.refused("Size 2 2;", 0, 1);
        Checks.refused(" 123;", 1, 1);
        Checks.refused("purse 100;", 6, 1);
        Checks.refused("lay 0 0 1,", 9, 1);
        Checks.refused("purse -1;", 6, 1);
        Checks.refused("pursewheat 1;", 0, 2);
    }

    private static void outOfPlace() {
        Checks.refused("wheat", 0, 2);
        Checks.refused("sizes 2 2;", 0, 2);
        Checks.refused("siz 2 2;", 0, 2);
        Checks.refused("purse 1; 5", 9, 2);
        Checks.refused(" ;", 1, 2);
        Checks.refused("size ;", 5, 2);
        Checks.refused("size two", 5, 2);
        Checks.refused("purse 1 2;", 8, 2);
        Checks.refused("purse 1 purse 2;", 8, 2);
        Checks.refused("sow 0 3;", 6, 2);
        Checks.refused("sow 0 ;", 6, 2);
        Checks.refused("sow 0 oats;", 6, 2);
        Checks.refused("sow rye 0;", 4, 2);
        Checks.refused("purse 1", 7, 2);
        Checks.refused("purse 1  ", 9, 2);
        Checks.refused("purse", 5, 2);
        Checks.refused("sow 0 ", 6, 2);
    }

    private static void outOfBounds() {
        Checks.refused("size 1 2;", 5, 3);
        Checks.refused("size 4 5;", 7, 3);
        Checks.refused("lay 16 0 1;", 4, 3);
        Checks.refused("lay 0 4 1;", 6, 3);
        Checks.refused("lay 0 0 0;", 8, 3);
        Checks.refused("lay 0 0 10;", 8, 3);
        Checks.refused("sow 16 rye;", 4, 3);
        Checks.refused("own 16 0;", 4, 3);
        Checks.refused("own 0 3;", 6, 3);
        Checks.refused("wall 32;", 5, 3);
        Checks.refused("rule 4 0 1;", 5, 3);
        Checks.refused("rule 0 5 1;", 7, 3);
        Checks.refused("rule 0 1 0;", 9, 3);
        Checks.refused("rule 0 1 5;", 9, 3);
        Checks.refused("stock 4 0 1;", 6, 3);
        Checks.refused("stock 0 0 0;", 10, 3);
        Checks.refused("stock 0 0 10;", 10, 3);
    }

    private static void twice() {
        Checks.refused("size 2 2; size 2 2;", 10, 4);
        Checks.refused("purse 1;purse", 8, 4);
        Checks.refused("lay 1 0 1;lay 01", 14, 4);
        Checks.refused("sow 1 rye;sow 1 oats;", 14, 4);
        Checks.refused("own 1 1;own 1 1;", 12, 4);
        Checks.refused("wall 1;wall 0;wall 1;", 19, 4);
        Checks.refused("stock 1 0 1;stock 2 0 1;stock 1 0 1;", 30, 4);
        Checks.refused("rule 2 2 9;", 7, 4);
        due("4 each of its own", Checks.told(new SeasonYard(), "lay 1 0 1;sow 1 rye;own 1 1;wall 1;stock 1 0 1;"), 5);
        due("4 the same rule", Checks.told(new SeasonYard(), "rule 0 1 1;rule 0 1 1;"), 2);
    }

    private static void sixthRule() {
        String five = "rule 0 1 1;rule 1 0 1;rule 2 0 1;rule 3 0 1;rule 3 4 4;";
        SeasonYard x = Checks.yard(five);
        due("4 five rules", x.rule(2), 5);
        due("4 by order", x.law(3, 0), 3);
        Checks.refused(five + " rule", 56, 5);
    }

    private static void behindAll() {
        Checks.refused("lay 4 0 1;", 10, 6);
        Checks.refused("sow 4 rye;  ", 12, 6);
        Checks.refused("size 3 2;own 6 0;", 17, 6);
        Checks.refused("wall 2;", 7, 7);
        Checks.refused("wall 5;", 7, 7);
        Checks.refused("wall 8;", 7, 7);
        Checks.refused("wall 2;lay 9 0 1;", 17, 6);
        Checks.refused("size 4 4;wall 31;", 17, 7);
        due("4 the size last", Checks.told(new SeasonYard(), "lay 15 0 1;wall 28;size 4 4;"), 3);
        due("4 the last but one", Checks.told(new SeasonYard(), "lay 5 0 1;wall 8;size 3 2;"), 3);
    }

    private static void firstFault() {
        Checks.refused("size 9 123;", 5, 3);
        Checks.refused("lay 9 0 1;lay 9 123;", 14, 4);
        Checks.refused("lay 9 0 1;oats", 10, 2);
        Checks.refused("lay 0 0 1 ?", 10, 1);
    }

    private static void faultKeepsAll() {
        SeasonYard x = Checks.yard("size 3 3;lay 8 2 4;sow 8 rose;rule 2 4 1;stock 2 8 3;purse 50;wall 0;own 8 1;");
        x.week(1);
        x.see(1, 1);
        x.keep(1);
        x.sheet(0, 0, 3);
        String state = Checks.stateOf(x);
        due("4 a fault", Checks.told(x, "purse 3;lay 0 0 1;wall 99;"), -33);
        due("5 a fault", x.fault(), 3);
        due("4 the tape is empty", x.count(2), 0);
        due("4 a fault behind all", Checks.told(x, "purse 3;lay 4 0 1;"), -28);
        due("5 a fault behind all", x.fault(), 6);
        String told = Checks.stateOf(x);
        due("4 stays", told.substring(0, told.length() - 1).equals(state.substring(0, state.length() - 1)) ? 1 : 0, 1);
        due("5 the latest", x.fault(), 6);
        due("39 stays", x.back(1), 1);
        Checks.told(x, "wall 0;");
        due("5 none", x.fault(), 0);
    }
}
