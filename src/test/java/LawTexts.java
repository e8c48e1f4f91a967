import java.util.Random;

/** Makes texts of LAWS, right ones and ones with something wrong in them. */
final class LawTexts {
    private static final String[] JUNK = {"not", "(", ")", ";", "and", "or", "if", "day", "<", "=", ">", "tee", "12345",
        "0007", "21", "A", "\t", "\n", "\u00e9", "from", "more", "luck", "cut", "9999", "10", "!", "teee", "te", "\u0000"};

    private LawTexts() {
    }

    static String make(Random dice, boolean isWild) {
        StringBuilder text = new StringBuilder();
        int rules = dice.nextInt(12) == 0 ? 36 + dice.nextInt(8) : dice.nextInt(10);
        for (int i = 0; i < rules && text.length() < 600; i++) {
            text.append(rules > 30 ? "cut " + dice.nextInt(3) + " " + (1 + dice.nextInt(20)) : rule(dice)).append(blank(dice)).append(';').append(blank(dice));
        }
        if (isWild || dice.nextInt(6) == 0) {
            spoil(dice, text);
        }
        return text.length() > 700 ? text.substring(0, 700) : text.toString();
    }

    /** Without a FAULT, with some of each kind. */
    static String season(Random dice) {
        StringBuilder text = new StringBuilder();
        for (int i = 0; i < 4; i++) {
            String part = ModelLaw.PARTS.get(i);
            text.append("drift ").append(part).append(' ').append(dice.nextInt(10)).append(';');
            text.append("luck ").append(part).append(' ').append(dice.nextInt(10)).append(';');
        }
        for (int i = 1; i < 9; i++) {
            text.append("points ").append(i).append(' ').append(dice.nextInt(30)).append(';');
            text.append(i < 4 ? "prize " + i + " " + dice.nextInt(10000) + ";" : "");
        }
        for (int i = 0; i < 3; i++) {
            text.append(dice.nextInt(3) > 0 ? "cut " + i + " " + (1 + dice.nextInt(14)) + ";" : "");
            text.append(dice.nextInt(3) > 0 ? "weigh " + dice.nextInt(12) + " " + dice.nextInt(21) + ";" : "");
            text.append(dice.nextInt(3) > 0 ? "hour tee " + dice.nextInt(9) + " from " + dice.nextInt(12) + ";" : "");
            text.append("press last more ").append(dice.nextInt(9)).append(" if ").append(any(dice, 9)).append(';');
        }
        return text.length() > 700 ? "luck tee 9;" : text.toString();
    }

    private static void spoil(Random dice, StringBuilder text) {
        int at = dice.nextInt(text.length() + 1);
        int end = Math.min(text.length(), at + dice.nextInt(4));
        text.replace(at, end, dice.nextBoolean() ? "" : JUNK[dice.nextInt(JUNK.length)]);
        if (dice.nextInt(4) == 0) {
            text.setLength(dice.nextInt(text.length() + 1));
        }
    }

    private static String blank(Random dice) {
        return dice.nextInt(5) == 0 ? dice.nextBoolean() ? " " : "\n " : "";
    }

    private static int upTo(Random dice, int most) {
        return dice.nextInt(150) == 0 ? most + 1 : dice.nextInt(most + 1);
    }

    private static String rule(Random dice) {
        String part = ModelLaw.PARTS.get(dice.nextInt(4));
        switch (dice.nextInt(9)) {
            case 0:
                return "drift " + part + " " + upTo(dice, 9);
            case 1:
                return "luck " + part + (dice.nextBoolean() ? "" : " ") + upTo(dice, dice.nextBoolean() ? 9 : 2);
            case 2:
                return "hour " + part + " " + upTo(dice, 20) + " from " + upTo(dice, 11);
            case 3:
            case 4:
                return "press " + part + (dice.nextBoolean() ? " more " : " less ") + upTo(dice, 20)
                        + (dice.nextInt(4) == 0 ? "" : " if " + any(dice, 0));
            case 5:
                return "cut " + upTo(dice, 2) + " " + (1 + upTo(dice, dice.nextBoolean() ? 4 : 19));
            case 6:
                return "prize " + (1 + upTo(dice, 19)) + " " + upTo(dice, 9999);
            case 7:
                return "points " + (1 + upTo(dice, dice.nextBoolean() ? 4 : 19)) + " " + upTo(dice, 999);
            default:
                return "weigh " + upTo(dice, dice.nextBoolean() ? 5 : 39) + " " + upTo(dice, dice.nextBoolean() ? 20 : 1);
        }
    }

    private static String any(Random dice, int depth) {
        StringBuilder text = new StringBuilder(one(dice, depth));
        while (dice.nextInt(3) == 0) {
            text.append(dice.nextBoolean() ? " or " : " and ").append(one(dice, depth));
        }
        return text.toString();
    }

    private static String one(Random dice, int depth) {
        int kind = dice.nextInt(depth > 11 ? 1 : dice.nextInt(8) == 0 ? 3 : 6);
        if (kind == 1) {
            return "not " + one(dice, depth + 1);
        }
        if (kind == 2) {
            return "(" + blank(dice) + any(dice, depth + 1) + ")";
        }
        String[] words = {"day", "hour", "week", "course", "behind", "order"};
        int[] most = {3, 11, 10, 5, 60, 12};
        int word = dice.nextInt(6);
        String number = String.valueOf(dice.nextInt(30) == 0 ? dice.nextInt(20000) : dice.nextInt(most[word] + 1));
        return words[word] + blank(dice) + "<>=".charAt(dice.nextInt(3)) + blank(dice) + number;
    }
}
