import java.util.regex.Matcher;
import java.util.regex.Pattern;

/**
 * Promise 6, "- 1 less the number of its first sign that is wrong": every short text of some signs, against a pattern.
 * A sign is wrong if nothing behind it could make rules of the text up to it.
 */
public final class BearingMovesTexts {
    private static final String NUMBER = "[1-9][0-9]{0,2}";
    private static final String TERM = "[+*-] *(?:" + NUMBER + " *(?:/ *" + NUMBER + " *)?)?[a-h]";
    private static final String RULE = TERM + "(?: *" + TERM + ")*";
    private static final Pattern RULES = Pattern.compile(" *" + RULE + "(?: *; *" + RULE + ")* *");

    private static int wrong = 0;
    private static int texts = 0;

    public static void main(String[] args) {
        everyTextOf("+1/a; 0x", 5);
        everyTextOf("+1a;", 8);
        everyTextOf("*9/h ", 7);
        everyTextOf("-12/", 7);
        System.out.println(wrong == 0 ? texts + " texts are read as due" : wrong + " answers are not as due");
        if (wrong != 0) {
            System.exit(1);
        }
    }

    private static void everyTextOf(String signs, int mostSigns) {
        long number = 1;
        for (int length = 0; length <= mostSigns; length++) {
            for (long k = 0; k < number; k++) {
                due(text(signs, length, k));
            }
            number *= signs.length();
        }
    }

    private static String text(String signs, int length, long number) {
        StringBuilder text = new StringBuilder();
        long rest = number;
        for (int i = 0; i < length; i++) {
            text.append(signs.charAt((int) (rest % signs.length())));
            rest /= signs.length();
        }
        return text.toString();
    }

    private static void due(String text) {
        BearingMoves x = new BearingMoves();
        for (int i = 0; i < text.length(); i++) {
            x.unit(text.charAt(i));
        }
        int got = x.rules();
        int want = answer(text);
        texts++;
        if (got != want) {
            wrong++;
            System.out.println("rules() of '" + text + "' answered " + got + ", due is " + want);
        }
    }

    private static int answer(String text) {
        if (RULES.matcher(text).matches()) {
            return text.split(";").length;
        }
        for (int i = 0; i < text.length(); i++) {
            Matcher begin = RULES.matcher(text.substring(0, i + 1));
            if (!begin.matches() && !begin.hitEnd()) {
                return -1 - firstDigit(text, i);
            }
        }
        return -1 - text.length();
    }

    /** "of a number with too many digits, or 0 in front, its first digit" */
    private static int firstDigit(String text, int at) {
        int first = at;
        while (first > 0 && isDigit(text, at) && isDigit(text, first - 1)) {
            first--;
        }
        return first;
    }

    private static boolean isDigit(String text, int at) {
        return text.charAt(at) >= '0' && text.charAt(at) <= '9';
    }
}
