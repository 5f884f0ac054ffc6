/** Texts by dice, whole ones and spoiled ones. */
final class Texts {
    /** The lines: a name, the bounds of its numbers (!: of a cell, edge, season that is told once alone), K for a crop. */
    static final String[] FORMS = {"size 2-4 2-4", "lay 0-15! 0-3 1-9", "sow 0-15! K", "own 0-15! 0-2",
        "wall 0-31!", "rule 0-3 0-4 1-4", "stock 0-3! 0-99 1-9", "purse 0-999"};

    private Texts() {
    }

    private static String thrownLine(Dice dice) {
        String[] fields = FORMS[dice.below(FORMS.length)].split(" ");
        StringBuilder line = new StringBuilder(fields[0]);
        for (int i = 1; i < fields.length; i++) {
            line.append(dice.below(8) == 0 ? "  " : " ");
            if (fields[i].equals("K")) {
                line.append(Model.NAMES[dice.below(5)]);
            } else {
                String[] bounds = fields[i].replace("!", "").split("-");
                int low = Integer.parseInt(bounds[0]);
                int high = Math.min(99, Integer.parseInt(bounds[1]));
                high = dice.below(4) == 0 || !fields[i].endsWith("!") ? high : Math.min(high, 8);
                line.append(dice.between(low, high + (dice.below(25) == 0 ? 3 : 0)));
            }
        }
        return line.append(dice.below(6) == 0 ? " ;" : ";").toString();
    }

    static String thrown(Dice dice) {
        StringBuilder text = new StringBuilder(dice.below(3) > 0 ? "size 4 " + dice.between(2, 4) + ";" : "");
        text.append(dice.below(12) == 0 ? "rule 1 2 3;rule 0 4 1;rule 3 1 2;rule 2 3 1;rule 0 1 1;" : "");
        for (int i = dice.below(12); i > 0; i--) {
            text.append(dice.below(8) == 0 ? " " : "").append(thrownLine(dice));
        }
        text.setLength(Math.min(text.length(), 160));
        for (int i = dice.below(5) == 0 ? 1 + dice.below(2) : 0; i > 0 && text.length() > 0; i--) {
            int at = dice.below(text.length());
            int kind = dice.below(3);
            char c = " ;0129azesr?A\n".charAt(dice.below(14));
            if (kind == 0) {
                text.deleteCharAt(at);
            } else if (kind == 1) {
                text.setCharAt(at, c);
            } else if (text.length() < 160) {
                text.insert(at, c);
            }
        }
        return text.toString();
    }
}
