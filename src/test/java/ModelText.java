import java.util.Random;

/** Drawn texts for THE LAW, sound ones and ones with a FAULT. */
final class ModelText {
    private static final String LETTERS = "nsklwm0123456789+-*/%<=>|&!()?; x";

    private ModelText() {
    }

    static String drawn(Random draw) {
        StringBuilder text = new StringBuilder();
        int lines = 1 + draw.nextInt(3);
        for (int i = 0; i < lines; i++) {
            text.append(i == 0 ? "" : ";").append(sum(draw, 3));
            if (draw.nextInt(3) > 0) {
                text.append('?').append(sum(draw, 2));
            }
        }
        if (draw.nextInt(4) == 0) {
            spoil(text, draw);
        }
        return text.length() > 100 ? text.substring(0, 100) : text.toString();
    }

    private static void spoil(StringBuilder text, Random draw) {
        int at = draw.nextInt(text.length());
        char letter = LETTERS.charAt(draw.nextInt(LETTERS.length()));
        switch (draw.nextInt(3)) {
            case 0:
                text.setCharAt(at, letter);
                break;
            case 1:
                text.insert(at, letter);
                break;
            default:
                text.deleteCharAt(at);
                break;
        }
    }

    private static String sum(Random draw, int depth) {
        StringBuilder text = new StringBuilder(one(draw, depth));
        int parts = draw.nextInt(3);
        for (int i = 0; i < parts; i++) {
            text.append("+-*/%<=>|&+-*/%|&".charAt(draw.nextInt(17))).append(one(draw, depth));
        }
        return text.toString();
    }

    private static String one(Random draw, int depth) {
        int how = draw.nextInt(10);
        if (how < 4) {
            return "" + "nsklwm".charAt(draw.nextInt(6));
        }
        if (how < 7) {
            return "" + draw.nextInt(draw.nextInt(3) == 0 ? 10000 : 6);
        }
        if (depth == 0) {
            return "n";
        }
        if (how == 7) {
            return "!" + one(draw, depth - 1);
        }
        return how == 8 ? "-" + one(draw, depth - 1) : "(" + sum(draw, depth - 1) + ")";
    }
}
