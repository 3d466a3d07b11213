import java.io.IOException;
import java.math.BigInteger;
import java.nio.file.Files;
import java.nio.file.Path;
import java.util.ArrayList;
import java.util.Arrays;
import java.util.LinkedHashMap;
import java.util.List;
import java.util.Map;
import java.util.function.IntPredicate;
import java.util.function.IntToLongFunction;

/**
 * A test for each sentence of the document, with the boundary cases that it names. A test says where its sentence
 * stands (Terms, or the promise) and quotes it; a sentence of the document that no test quotes is a fault, too.
 * What refused calls leave of the state is in BearingMovesRefusals, what calls change in BearingMovesChanges.
 */
public final class BearingMovesEdges {
    private static final int BAD = -1, NONE = -2;
    private static final int LOW = Integer.MIN_VALUE, HIGH = Integer.MAX_VALUE;
    private static final String EIGHT_RULES = "+a;+a;+a;+a;+a;+a;+a;+a";
    private static final String SIX_TERMS = "+a+a+a+a+a+a";

    /** With the values of nearlyEqual() the first sum is greater by one part of some 10 to the power of 47. */
    private static final String NEAR_MORE = "+1/991a+1/977b+1/967c+1/947d", NEAR_LESS = "+1/937e+1/919f+1/907g+1/883h";

    private static int wrong = 0;
    private static int sentences = 0;
    private static String sentence = "";
    private static final Map<String, List<String>> QUOTES = new LinkedHashMap<>();

    public static void main(String[] args) throws IOException {
        whatItIs();
        terms();
        promises();
        everySentenceIsQuoted();
        System.out.println(wrong == 0 ? sentences + " sentences hold" : wrong + " answers are not as due");
        if (wrong != 0) {
            System.exit(1);
        }
    }

    private static void whatItIs() throws IOException {
        oneBridge();
        calls();
    }

    private static void terms() throws IOException {
        fractionsInLeastTerms();
        fractionsByParts();
        bearings();
        axes();
        kinds();
        valuesOfEachKindBearingAndAxis();
        rulesWithSemicolons();
        ruleOfTerms();
        numberOfTimes();
        numberOfDigits();
        eightRulesOfSixTerms();
        blanks();
        sumsOfAllSigns();
        greatestAndLeast();
        worst();
        heldAxes();
        lockedByShiftAndTurn();
        lockedRows();
        jointBounds();
        growthOfGaps();
    }

    private static void promises() throws IOException {
        newObject();
        bearingPromise();
        heldPromise();
        valuePromise();
        unitPromise();
        rulesBecomeAndAreGone();
        rulesFirstWrongSign();
        rulesEndTooEarly();
        rulesWrongNumbers();
        rulesTooMany();
        rulesStay();
        sumPromise();
        caseOfPromise();
        lockedPromise();
        rankPromise();
        directionPromise();
        jointPromise();
        gapAtAWarmth();
        gapPromise();
        dayPromise();
        travelPromise();
        listPromise();
        bestOfEachBearing();
        bestHolds();
        bestOfSeveral();
        bestOfNone();
        jackPromise();
        raisedPromise();
        inspectEachOnce();
        inspectPromise();
        countPromise();
    }

    /** What follows tests this sentence, which the document must have in this place, word by word. */
    private static void sentence(String place, String quote) throws IOException {
        sentence = place + ", '" + quote + "'";
        sentences++;
        QUOTES.computeIfAbsent(place, p -> new ArrayList<>()).add(quote);
        Path document = Path.of("../shared/DOC.md");
        if (Files.exists(document) && !section(Files.readString(document), place).contains(quote)) {
            wrong++;
            System.out.println(sentence + ": the document has no such sentence there");
        }
    }

    private static String section(String document, String place) {
        int from = document.indexOf("## " + place + (place.startsWith("Promise") ? ":" : ""));
        if (from < 0) {
            return "";
        }
        int to = document.indexOf("\n## ", from);
        return to < 0 ? document.substring(from) : document.substring(from, to);
    }

    /** Without its headings, its signatures and the quotes a place of the document has no letter or digit left. */
    private static void everySentenceIsQuoted() throws IOException {
        Path file = Path.of("../shared/DOC.md");
        if (!Files.exists(file)) {
            return;
        }
        String document = Files.readString(file);
        List<String> places = new ArrayList<>(List.of("What it is", "Terms"));
        for (int promise = 1; promise <= 21; promise++) {
            places.add("Promise " + promise);
        }
        for (String place : places) {
            String left = section(document, place).replaceFirst("## .*", "").replaceAll("`[^`\n]+`", "");
            left = left.replace("```text", "");
            List<String> quotes = new ArrayList<>(QUOTES.getOrDefault(place, List.of()));
            quotes.sort((one, other) -> other.length() - one.length());
            for (String quote : quotes) {
                left = left.replace(quote, "");
            }
            if (!left.replaceAll("[^A-Za-z0-9]", "").isEmpty()) {
                wrong++;
                System.out.println(place + ": no test quotes '" + left.trim() + "'");
            }
        }
    }

    private static void due(String what, long got, long want) {
        if (got != want) {
            wrong++;
            System.out.println(sentence + ": " + what + " answered " + got + ", due is " + want);
        }
    }

    private static void due(String what, boolean got, boolean want) {
        due(what, got ? 1 : 0, want ? 1 : 0);
    }

    /** The last input that is taken and the first that is refused, on each side; and the ends of int. */
    private static long[] inputsAround(int low, int high) {
        long[] inputs = {LOW, LOW + 1, -65_536L + low, -256L + low, low - 1L, low, low + 1L, high - 1L, high,
            high + 1L, 256L + high, 65_536L + high, HIGH - 1, HIGH};
        return Arrays.stream(inputs).filter(input -> input >= LOW && input <= HIGH).toArray();
    }

    private static void dueRange(String what, int low, int high, IntPredicate call) {
        for (long input : inputsAround(low, high)) {
            due(what + " " + input, call.test((int) input), input >= low && input <= high);
        }
    }

    /** Outside BAD is due, and inside what is told. */
    private static void dueRange(String what, int low, int high, IntToLongFunction call, IntToLongFunction inside) {
        for (long input : inputsAround(low, high)) {
            boolean isInside = input >= low && input <= high;
            due(what + " " + input, call.applyAsLong((int) input), isInside ? inside.applyAsLong((int) input) : BAD);
        }
    }

    private static void dueParts(String what, IntToLongFunction parts, BigInteger upper, BigInteger lower) {
        BigInteger eighteen = BigInteger.TEN.pow(18);
        due(what + ", part -1", parts.applyAsLong(-1), upper.signum());
        BigInteger up = upper.abs();
        BigInteger down = lower;
        for (int part = 0; part < 10; part += 2) {
            due(what + ", part " + part, parts.applyAsLong(part), up.mod(eighteen).longValueExact());
            due(what + ", part " + (part + 1), parts.applyAsLong(part + 1), down.mod(eighteen).longValueExact());
            up = up.divide(eighteen);
            down = down.divide(eighteen);
        }
        due(what + ", part HIGH - 1", parts.applyAsLong(HIGH - 1), 0);
        due(what + ", part HIGH", parts.applyAsLong(HIGH), 0);
    }

    private static void dueParts(String what, IntToLongFunction parts, long upper, long lower) {
        dueParts(what, parts, BigInteger.valueOf(upper), BigInteger.valueOf(lower));
    }

    /** Of bearing 0. */
    private static void dueSum(String what, BearingMoves x, int axis, int which, long upper, long lower) {
        dueParts(what, part -> x.sum(0, axis, which, part), upper, lower);
    }

    private static void dueRank(String what, BearingMoves x, int growing, int without) {
        due(what + ": rank(true)", x.rank(true), growing);
        due(what + ": rank(false)", x.rank(false), without);
        due(what + ": locked()", x.locked(), growing > without);
    }

    private static void dueRead(String text, int answer) {
        due("rules() of '" + text + "'", read(new BearingMoves(), text), answer);
    }

    /** Bearings at pairs of places. */
    private static BearingMoves at(int... places) {
        BearingMoves x = new BearingMoves();
        for (int i = 0; i + 1 < places.length; i += 2) {
            x.bearing(places[i], places[i + 1]);
        }
        return x;
    }

    private static BearingMoves withBearings(int number) {
        BearingMoves x = new BearingMoves();
        for (int i = 0; i < number; i++) {
            x.bearing(1_000 * i, 10 * i * i);
        }
        return x;
    }

    private static BearingMoves collect(BearingMoves x, String text) {
        for (int i = 0; i < text.length(); i++) {
            x.unit(text.charAt(i));
        }
        return x;
    }

    private static int read(BearingMoves x, String text) {
        return collect(x, text).rules();
    }

    private static BearingMoves withRules(int number, String text) {
        BearingMoves x = withBearings(number);
        read(x, text);
        return x;
    }

    private static BearingMoves hold(BearingMoves x, int... bearingsAndAxes) {
        for (int i = 0; i + 1 < bearingsAndAxes.length; i += 2) {
            x.held(bearingsAndAxes[i], bearingsAndAxes[i + 1], true);
        }
        return x;
    }

    private static BearingMoves withJoint(int length, int gap, int warmth) {
        BearingMoves x = withBearings(1);
        x.joint(0, length, gap, warmth);
        return x;
    }

    // What it is

    /** A deck of 30 m on three bearings, from its places to its inspection, every answer reckoned by hand. */
    private static void oneBridge() throws IOException {
        sentence("What it is", "What the bearings of a bridge must bear: moves and loads of several kinds, put "
            + "together by rules that a text tells, over all signs that may be; whether places that are held lock one "
            + "another when all grows; gaps and wear by warmth; the least bearing from a list that holds; jacking "
            + "step by step; and an order of inspection.");
        BearingMoves x = hold(at(0, 0, 30_000, 0, 30_000, 8_000), 0, 0, 0, 1, 1, 1);
        x.value(0, 2, 0, 21, 2);
        x.value(1, 2, 0, -11, 4);
        x.value(0, 2, 2, 640, 1);
        x.value(2, 2, 2, 85, 3);
        due("rules()", read(x, "+a*b+3/2c; -1/2a*2b"), 2);
        dueParts("the greatest move", part -> x.sum(2, 0, 1, part), 53, 4);
        dueParts("the least move", part -> x.sum(2, 0, 0, part), -43, 4);
        dueParts("the worst move", part -> x.sum(2, 0, 2, part), 53, 4);
        dueParts("the greatest load", part -> x.sum(2, 2, 1, part), 1_365, 2);
        due("the case of the least move", x.caseOf(2, 0, 0), 1);
        dueRank("fixed, guided and free", x, 3, 3);
        due("the free one moves along x", x.direction(2, 0), 15);
        due("the free one moves along y", x.direction(2, 1), 4);
        hold(x, 1, 0);
        dueRank("fixed twice", x, 4, 3);
        x.joint(1, 30_000, 10_000, 100);
        x.joint(2, 30_000, 5_000, 150);
        dueParts("the gap of 1 in heat", part -> x.gap(1, 350, part), 1, 1);
        dueParts("the gap of 2 in frost", part -> x.gap(2, -100, part), 14, 1);
        x.day(120);
        x.day(170);
        x.day(70);
        dueParts("the wear of 2", part -> x.travel(2, part), 27, 5);
        x.list(13, 700);
        x.list(14, 800);
        x.list(15, 700);
        due("the least that holds 2", x.best(2), 2);
        due("the least that holds 0", x.best(0), 0);
        due("raisings", x.jack(25, 10), 9);
        due("the first one, behind the first of the third round", x.raised(7, 0), 25);
        due("the second one, too", x.raised(7, 1), 20);
        dueOrder("most wear, then most load", x, 2, 1, 0);
    }

    private static void calls() throws IOException {
        sentence("What it is", "An object is used for at most 512 calls after it has been made; what later calls "
            + "answer is free.");
        BearingMoves x = withJoint(1_000_000, 0, 0);
        for (int call = 3; call <= 511; call++) {
            x.rank(call % 2 == 0);
        }
        due("call 512", x.gap(0, 900, 0), 1_080);
    }

    // Terms

    private static void fractionsInLeastTerms() throws IOException {
        sentence("Terms", "FRACTIONS are told in least terms (0 as 0 / 1) by PARTS");
        dueSum("a sum without rules", withBearings(1), 0, 1, 0, 1);
        int[][] values = {{0, 1_000, 0, 1}, {1_000_000, 1_000, 1_000, 1}, {-1_000_000, 1_000, -1_000, 1},
            {1, 1_000, 1, 1_000}, {-1, 1_000, -1, 1_000}, {500, 1_000, 1, 2}, {999_999, 999, 1_001, 1},
            {1_000_000, 999, 1_000_000, 999}, {1_000_000, 1, 1_000_000, 1}};
        for (int[] v : values) {
            BearingMoves x = withRules(1, "+a");
            x.value(0, 0, 0, v[0], v[1]);
            dueSum("the sum of " + v[0] + " / " + v[1], x, 0, 0, v[2], v[3]);
        }
        BearingMoves x = withRules(1, "+a-a");
        x.value(0, 0, 0, 999_983, 997);
        dueSum("a sum that comes to 0", x, 0, 0, 0, 1);
        read(x, "+997/999a");
        dueSum("a sum that lessens by its number", x, 0, 0, 999_983, 999);
        read(x, "+1/6b+1/3b");
        x.value(1, 0, 0, 2, 1);
        dueSum("a sum that lessens by its terms", x, 0, 0, 1, 1);
        dueParts("the gap of no joint", part -> x.gap(0, 0, part), 0, 1);
        dueParts("the travel of no days", part -> x.travel(0, part), 0, 1);
        x.joint(0, 10_000, 1_200, 0);
        dueParts("a gap that comes to 0", part -> x.gap(0, 100, part), 0, 1);
        dueParts("a gap of whole mm", part -> x.gap(0, 600, part), -6, 1);
    }

    private static void fractionsByParts() throws IOException {
        sentence("Terms", "- 1 the sign, 0 and 1 the lowest eighteen digits of the upper and of the lower part, "
            + "without sign, 2 and 3 the next eighteen, and so on (0 behind the last ones).");
        BigInteger eighteen = BigInteger.TEN.pow(18);
        dueUpper(eighteen.subtract(BigInteger.ONE), 659_572, 412_723, 23_534);
        dueUpper(eighteen, 18_536, 548_659, 499_831);
        dueUpper(eighteen.add(BigInteger.ONE), 365_527, 684_595, 37_171);
        dueUpper(eighteen.negate(), -18_536, -548_659, -499_831);
        BigInteger more = BigInteger.TEN.pow(36);
        dueUpper(more.subtract(BigInteger.ONE), 411_311, 744_687, 242_497, 78_969, 336_875, -228_322);
        dueUpper(more, 653_187, 718_052, 116_771, 637_728, 171_461, -667_747);
        dueUpper(more.add(BigInteger.ONE), 895_063, 691_417, 930_002, 293_996, -875_670, -253_421);
        dueUpper(more.negate(), -653_187, -718_052, -116_771, -637_728, -171_461, 667_747);
        dueLower(999_999_968_869_081_407L, 463, 113, 727, 47, 349, 157, 41, 249);
        dueLower(1_000_000_034_638_836_573L, 43, 157, 977, 277, 269, 191, 67, 159);
    }

    /** Values over products of primes that nothing shortens, chosen so that the upper part is this number. */
    private static void dueUpper(BigInteger upper, int... above) {
        int[] primes = {997, 991, 983, 977, 971, 967, 953, 947, 941, 937, 929, 919};
        BearingMoves x = withBearings(1);
        StringBuilder text = new StringBuilder();
        BigInteger lower = BigInteger.ONE;
        for (int i = 0; i < above.length; i++) {
            x.value(i, 0, 0, above[i], primes[2 * i]);
            text.append("+1/").append(primes[2 * i + 1]).append((char) ('a' + i));
            lower = lower.multiply(BigInteger.valueOf(primes[2 * i] * primes[2 * i + 1]));
        }
        due("rules()", read(x, text.toString()), 1);
        dueParts("the sum " + upper + " / " + lower, part -> x.sum(0, 0, 1, part), upper, lower);
    }

    private static void dueLower(long lower, int... divisors) {
        BearingMoves x = withBearings(1);
        StringBuilder text = new StringBuilder();
        BigInteger upper = BigInteger.ZERO;
        for (int i = 0; i < divisors.length; i += 2) {
            x.value(i, 0, 0, 1, divisors[i]);
            text.append("+1/").append(divisors[i + 1]).append((char) ('a' + i));
            upper = upper.add(BigInteger.valueOf(lower / (divisors[i] * divisors[i + 1])));
        }
        due("rules()", read(x, text.toString()), 1);
        dueParts("a sum over " + lower, part -> x.sum(0, 0, 1, part), upper, BigInteger.valueOf(lower));
    }

    private static void bearings() throws IOException {
        sentence("Terms", "BEARINGS 0 .. (at most 10)");
        for (int number = 0; number <= 10; number++) {
            BearingMoves x = withBearings(number);
            due("count(0)", x.count(0), number);
            dueRange("of " + number + ", bearing", 0, number - 1, b -> x.travel(b, 0), b -> 0);
        }
        sentence("Terms", "are at whole places x, y (- 100,000 .. 100,000, mm).");
        dueRange("bearing(.., 0) at", -100_000, 100_000, place -> new BearingMoves().bearing(place, 0), place -> 0);
        dueRange("bearing(0, ..) at", -100_000, 100_000, place -> new BearingMoves().bearing(0, place), place -> 0);
    }

    private static void axes() throws IOException {
        sentence("Terms", "AXES: 0 along x, 1 along y, 2 upright.");
        dueRange("value() of axis", 0, 2, axis -> withBearings(1).value(0, 0, axis, 1, 1));
        dueRange("sum() of axis", 0, 2, axis -> withRules(1, "+a").sum(0, axis, 0, 0), axis -> 0);
        dueRange("sum() of axis, the sign,", 0, 2, axis -> withRules(1, "+a").sum(0, axis, 0, -1) == 0);
        dueRange("caseOf() of axis", 0, 2, axis -> withRules(1, "+a").caseOf(0, axis, 0), axis -> 0);
        dueRange("held() of axis", 0, 1, axis -> withBearings(1).held(0, axis, true));
        dueRange("direction() of axis", 0, 1, axis -> hold(withBearings(1), 0, 0, 0, 1).direction(0, axis), axis -> 0);
        BearingMoves x = hold(at(0, 0, 300, -700), 0, 0, 0, 1);
        due("direction(1, 0), along x", x.direction(1, 0), 3);
        due("direction(1, 1), along y", x.direction(1, 1), -7);
    }

    private static void kinds() throws IOException {
        sentence("Terms", "KINDS 0 .. 7 have the letters a .. h");
        dueRange("value() of kind", 0, 7, kind -> withBearings(1).value(kind, 0, 0, 1, 1));
        dueRange("a term with the letter", 'a', 'h',
            letter -> letter > 32 && letter < 127 && read(new BearingMoves(), "+" + (char) letter) == 1);
        for (int kind = 0; kind < 8; kind++) {
            BearingMoves x = withBearings(1);
            x.value(kind, 0, 0, 5, 1);
            for (int letter = 0; letter < 8; letter++) {
                read(x, "+" + (char) ('a' + letter));
                due("kind " + kind + " for letter " + letter, x.sum(0, 0, 1, 0), kind == letter ? 5 : 0);
            }
        }
    }

    private static void valuesOfEachKindBearingAndAxis() throws IOException {
        sentence("Terms", "for each kind, bearing and axis there is a VALUE, a fraction (0 at first).");
        for (int kind = 0; kind < 8; kind++) {
            BearingMoves fresh = withRules(10, "+" + (char) ('a' + kind));
            BearingMoves x = withRules(10, "-" + (char) ('a' + kind));
            for (int place = 0; place < 240; place++) {
                x.value(place / 30, place / 3 % 10, place % 3, 1_000 + place, 1);
            }
            for (int place = 0; place < 30; place++) {
                String what = "kind " + kind + ", bearing " + place / 3 + ", axis " + place % 3;
                due(what + " at first, upper", fresh.sum(place / 3, place % 3, 1, 0), 0);
                due(what + " at first, lower", fresh.sum(place / 3, place % 3, 1, 1), 1);
                due(what, x.sum(place / 3, place % 3, 1, 0), 1_000 + 30 * kind + place);
            }
        }
    }

    private static void rulesWithSemicolons() throws IOException {
        sentence("Terms", "RULES are a text: one or more, with ; between.");
        dueRead("", -1);
        dueRead(" ", -2);
        dueRead("+a", 1);
        dueRead("+a+a", 1);
        dueRead("+a;+a", 2);
        dueRead(";", -1);
        dueRead(" ;", -2);
        dueRead(";+a", -1);
        dueRead("+a;", -4);
        dueRead("+a;;+a", -4);
        dueRead("+a; ;+a", -5);
        dueRead("+a,+a", -3);
        dueRead("+a:+a", -3);
    }

    private static void ruleOfTerms() throws IOException {
        sentence("Terms", "A RULE is one or more TERMS: a SIGN, + or - or * (either sign, as may be), perhaps a "
            + "NUMBER, perhaps / and a NUMBER behind that one, and a letter a .. h");
        dueNextSigns("", "+-* ");
        dueNextSigns("+", "123456789abcdefgh ");
        dueNextSigns("-2", "0123456789/abcdefgh ");
        dueNextSigns("*2/", "123456789 ");
        dueNextSigns("+2/3", "0123456789abcdefgh ");
        dueNextSigns("+2/3a", "+-*; ");
        dueNextSigns("+a", "+-*; ");
        dueNextSigns("-a ", "+-*; ");
        dueNextSigns("+a+", "123456789abcdefgh ");
        dueNextSigns("+a;", "+-* ");
        for (String text : new String[] {"+a", "-h", "*d", "+2a", "-2/3h", "*20/3d", "+200/300e"}) {
            dueRead(text, 1);
        }
    }

    /** Behind the begin of a text each sign but the right ones is the first wrong one. */
    private static void dueNextSigns(String begin, String right) {
        for (char sign = 32; sign < 127; sign++) {
            int answer = read(new BearingMoves(), begin + sign);
            boolean isWrong = answer == -1 - begin.length();
            due("'" + sign + "' behind '" + begin + "' is right", !isWrong, right.indexOf(sign) >= 0);
        }
    }

    private static void numberOfTimes() throws IOException {
        sentence("Terms", "so many times (1 without) that kind's value.");
        BearingMoves x = withBearings(1);
        x.value(0, 0, 0, 7, 11);
        String[] texts = {"+a", "+1a", "+1/1a", "+999a", "+1/999a", "+999/999a", "+999/1a", "-a", "-999/998a",
            "+11/7a"};
        long[][] due = {{7, 11}, {7, 11}, {7, 11}, {6_993, 11}, {7, 10_989}, {7, 11}, {6_993, 11}, {-7, 11},
            {-6_993, 10_978}, {1, 1}};
        for (int i = 0; i < texts.length; i++) {
            due("rules()", read(x, texts[i]), 1);
            dueSum(texts[i], x, 0, 1, due[i][0], due[i][1]);
        }
    }

    private static void numberOfDigits() throws IOException {
        sentence("Terms", "A NUMBER has 1 to 3 digits, is not 0, and has no 0 in front.");
        for (int number = 0; number <= 1_100; number++) {
            boolean isOne = number >= 1 && number <= 999;
            dueRead("+" + number + "a", isOne ? 1 : -2);
            dueRead("+1/" + number + "a", isOne ? 1 : -4);
        }
        String[] none = {"0", "00", "000", "0000", "01", "001", "0001", "010", "099", "0999", "00999", "1000", "9999",
            "10000", "4294967297", "18446744073709551617", "1000000000000000000000000000000000000000001"};
        for (String number : none) {
            dueRead("+" + number + "a", -2);
            dueRead("+ " + number + "/2a", -3);
            dueRead("+1/" + number + "a", -4);
            dueRead("+a-999/ " + number + " a", -9);
        }
    }

    private static String repeated(String text, String between, int times) {
        return (text + between).repeat(times - 1) + text;
    }

    private static void eightRulesOfSixTerms() throws IOException {
        sentence("Terms", "At most 8 rules, each with at most 6 terms.");
        for (int rules = 1; rules <= 10; rules++) {
            dueRead(repeated("+a", ";", rules), rules <= 8 ? rules : -1 - 24);
        }
        for (int terms = 1; terms <= 8; terms++) {
            dueRead("+a".repeat(terms), terms <= 6 ? 1 : -1 - 12);
        }
        BearingMoves x = withBearings(1);
        due("8 rules of 6 terms", read(x, repeated(SIX_TERMS, ";", 8)), 8);
        due("count(1)", x.count(1), 8);
        due("count(2)", x.count(2), 48);
        dueRead(repeated(SIX_TERMS, ";", 8) + "+a", -1 - 103);
        dueRead(repeated(SIX_TERMS, ";", 8) + ";+a", -1 - 104);
        x.value(0, 0, 0, 1, 1);
        read(x, "+a;+2a;+3a;+4a;+5a;+6a;+7a;+a+2a+3a+4a+5a+600a");
        due("the last term of the last rule counts", x.sum(0, 0, 1, 0), 615);
        due("the last rule is a case", x.caseOf(0, 0, 1), 7);
    }

    private static void blanks() throws IOException {
        sentence("Terms", "Blanks do not matter between all these.");
        String[] parts = {"", "+", "12", "/", "345", "a", "-", "b", ";", "*", "6", "c", ""};
        for (int blanks = 0; blanks <= 14; blanks += 7) {
            for (int place = 0; place < parts.length; place++) {
                StringBuilder text = new StringBuilder();
                for (int i = 0; i < parts.length; i++) {
                    text.append(parts[i]).append(" ".repeat(i == place ? blanks : 0));
                }
                dueRead(text.toString(), 2);
            }
            dueRead(String.join(" ".repeat(blanks), parts), 2);
        }
        dueRead("+1 2a", -4);
        dueRead("+1 23/4a", -4);
        dueRead("+12/3 4a", -7);
        dueRead(" ".repeat(198) + "+a", 1);
        dueRead("+" + " ".repeat(198) + "a", 1);
        dueRead("+a" + " ".repeat(198), 1);
    }

    private static void sumsOfAllSigns() throws IOException {
        sentence("Terms", "THE SUMS of a rule, for a bearing and an axis, are those of all its terms, for all choices "
            + "of signs of * terms.");
        BearingMoves x = withBearings(1);
        for (int kind = 0; kind < 6; kind++) {
            x.value(kind, 0, 0, kind % 2 == 0 ? 1 << kind : -(1 << kind), 1);
        }
        read(x, "*a*b*c*d*e*f");
        dueSum("the greatest of 64 choices", x, 0, 1, 63, 1);
        dueSum("the least of 64 choices", x, 0, 0, -63, 1);
        read(x, "+a+b+c+d+e+f");
        dueSum("no choice: the greatest", x, 0, 1, 1 - 2 + 4 - 8 + 16 - 32, 1);
        dueSum("no choice: the least", x, 0, 0, 1 - 2 + 4 - 8 + 16 - 32, 1);
        read(x, "-a+b-c+d-e*f");
        dueSum("one choice: the greatest", x, 0, 1, -31 + 32, 1);
        dueSum("one choice: the least", x, 0, 0, -31 - 32, 1);
        read(x, "*a*a");
        dueSum("one kind twice: the greatest", x, 0, 1, 2, 1);
        dueSum("one kind twice: the least", x, 0, 0, -2, 1);
        read(x, "*h");
        dueSum("a choice of 0", x, 0, 1, 0, 1);
    }

    private static void greatestAndLeast() throws IOException {
        sentence("Terms", "THE GREATEST and THE LEAST are over all rules and choices (0 without rules)");
        BearingMoves x = withBearings(1);
        x.value(0, 0, 0, 5, 1);
        dueSum("without rules, the least", x, 0, 0, 0, 1);
        dueSum("without rules, the greatest", x, 0, 1, 0, 1);
        read(x, "+a;+2a;+3a;+4a;+5a;+6a;+7a;+8a");
        dueSum("the least of 8 is above 0", x, 0, 0, 5, 1);
        dueSum("the greatest of 8 is the last", x, 0, 1, 40, 1);
        read(x, "-8a;-7a;-6a;-5a;-4a;-3a;-2a;-a");
        dueSum("the least of 8 is the first", x, 0, 0, -40, 1);
        dueSum("the greatest of 8 is below 0", x, 0, 1, -5, 1);
        read(x, "+a;*a");
        dueSum("the least by a choice", x, 0, 0, -5, 1);
        sentence("Terms", "the CASE of the greatest is the first rule that has it, that of the least likewise.");
        due("the greatest of two that are equal", x.caseOf(0, 0, 1), 0);
        due("the least", x.caseOf(0, 0, 0), 1);
        read(x, "+b;-2a;*2a;+4/2a;*a+a-2a;-a-a");
        due("the first of the least", x.caseOf(0, 0, 0), 1);
        due("the first of the greatest", x.caseOf(0, 0, 1), 2);
        read(x, EIGHT_RULES);
        due("the least of eight that are equal", x.caseOf(0, 0, 0), 0);
        due("the greatest of eight that are equal", x.caseOf(0, 0, 1), 0);
        due("the least where all is 0", x.caseOf(0, 1, 0), 0);
        due("the greatest where all is 0", x.caseOf(0, 1, 1), 0);
        x.value(1, 0, 0, 1, 1_000);
        read(x, "+a;+a+1/999b;+a-1/999b");
        due("the greatest by very little", x.caseOf(0, 0, 1), 1);
        due("the least by very little", x.caseOf(0, 0, 0), 2);
        dueCases(NEAR_MORE + ";" + NEAR_LESS, 1, 0);
        dueCases(NEAR_LESS + ";" + NEAR_MORE, 0, 1);
        dueCases((NEAR_MORE + ";" + NEAR_LESS).replace('+', '-'), 0, 1);
        dueCases((NEAR_LESS + ";" + NEAR_MORE).replace('+', '-'), 1, 0);
        dueCases(NEAR_LESS + ";+1/947d+1/967c+1/977b+1/991a;" + NEAR_MORE, 0, 1);
        dueCases(NEAR_MORE + ";+1/883h+1/907g+1/919f+1/937e;" + NEAR_LESS, 1, 0);
    }

    private static void dueCases(String text, int least, int greatest) {
        BearingMoves x = withBearings(1);
        nearlyEqual(x, 0, 0);
        read(x, text);
        due("the case of the least of " + text, x.caseOf(0, 2, 0), least);
        due("the case of the greatest of " + text, x.caseOf(0, 2, 1), greatest);
    }

    /** Values of axis 2, those of the sum that is more for a bearing, and those of the other one for another. */
    private static void nearlyEqual(BearingMoves x, int more, int less) {
        int[] above = {688_676, 172_953, 494_725, -401_047, 182_609, 607_268, 115_121, -76_840};
        int[] below = {997, 983, 971, 953, 941, 929, 911, 887};
        for (int kind = 0; kind < 8; kind++) {
            x.value(kind, kind < 4 ? more : less, 2, above[kind], below[kind]);
        }
    }

    private static void worst() throws IOException {
        sentence("Terms", "WORST is the one of both that is farther from 0 (the greatest, if they are equally far).");
        BearingMoves x = withBearings(1);
        dueSum("without rules", x, 0, 2, 0, 1);
        x.value(0, 0, 0, 5, 1);
        x.value(1, 0, 0, 1, 1_000);
        read(x, "*a");
        dueSum("equally far", x, 0, 2, 5, 1);
        read(x, "-a;+a");
        dueSum("equally far, the least first", x, 0, 2, 5, 1);
        read(x, "+a;-a-1/999b");
        dueSum("the least is farther by very little", x, 0, 2, -4_995_001, 999_000);
        read(x, "-a;+a+1/999b");
        dueSum("the greatest is farther by very little", x, 0, 2, 4_995_001, 999_000);
        read(x, "-a;-2a");
        dueSum("both below 0", x, 0, 2, -10, 1);
        read(x, "+a;+2a");
        dueSum("both above 0", x, 0, 2, 10, 1);
        read(x, "-a");
        dueSum("both the same", x, 0, 2, -5, 1);
        read(x, "-a;+c");
        dueSum("the greatest is 0", x, 0, 2, -5, 1);
        nearlyEqual(x, 0, 0);
        read(x, NEAR_MORE + ";" + NEAR_LESS.replace('+', '-'));
        due("the sign, the greatest is farther by the least", x.sum(0, 2, 2, -1), 1);
        read(x, NEAR_MORE.replace('+', '-') + ";" + NEAR_LESS);
        due("the sign, the least is farther by the least", x.sum(0, 2, 2, -1), -1);
        read(x, NEAR_MORE.replace('+', '-') + ";+1/947d+1/967c+1/977b+1/991a");
        due("the sign, both are equally far", x.sum(0, 2, 2, -1), 1);
    }

    private static void heldAxes() throws IOException {
        sentence("Terms", "HELD: at a bearing axis 0 or 1 may be held.");
        BearingMoves x = withBearings(10);
        for (int b = 0; b < 10; b++) {
            due("held(" + b + ", 2, true)", x.held(b, 2, true), false);
            due("held(" + b + ", -1, true)", x.held(b, -1, true), false);
            due("held(" + b + ", 0, true)", x.held(b, 0, true), true);
            due("count(5)", x.count(5), 2 * b + 1);
            due("held(" + b + ", 1, true)", x.held(b, 1, true), true);
            due("count(5)", x.count(5), 2 * b + 2);
        }
    }

    /** Every choice of what is held, in four places each time. */
    private static void lockedByShiftAndTurn() throws IOException {
        sentence("Terms", "LOCKED are they, if no small shift and turn of the whole leaves all that is held in its "
            + "place when all grows alike");
        int[][] allPlaces = {{0, 0, 10, 0, 0, 10, 10, 10}, {0, 0, 10, 0, 20, 0, 30, 0}, {5, 5, 6, 7, 7, 9, 8, 11},
            {-3, 4, 5, 5, 6, -3, -3, 4}, {2, 1, -1, 2, -2, -1, 1, -2}, {0, 3, 0, -3, 0, 3, 0, 9},
            {100_000, 100_000, -100_000, -100_000, 100_000, -99_999, -99_999, 100_000}};
        for (int[] places : allPlaces) {
            for (int choice = 0; choice < 256; choice++) {
                BearingMoves x = at(places);
                for (int row = 0; row < 8; row++) {
                    x.held(row / 2, row % 2, (choice >> row & 1) == 1);
                }
                due("locked() at " + Arrays.toString(places) + ", held " + Integer.toBinaryString(choice), x.locked(),
                    !hasShiftAndTurn(places, choice));
            }
        }
    }

    /**
     * When all grows by one part, a shift of u, v and a turn of w move a place by x + u - y w, y + v + x w. Of two that
     * are held on one axis, u or v takes one back for any turn, and the other one then asks a turn by itself.
     */
    private static boolean hasShiftAndTurn(int[] places, int choice) {
        long turnAbove = 0;
        long turnBelow = 0;
        for (int one = 0; one < 8; one++) {
            for (int other = one + 2; other < 8; other += 2) {
                if ((choice >> one & 1) == 1 && (choice >> other & 1) == 1) {
                    long alongX = places[other / 2 * 2] - places[one / 2 * 2];
                    long alongY = places[other / 2 * 2 + 1] - places[one / 2 * 2 + 1];
                    long above = one % 2 == 0 ? alongX : -alongY;
                    long below = one % 2 == 0 ? alongY : alongX;
                    boolean isAnyTurn = above == 0 && below == 0;
                    if (above != 0 && below == 0 || turnAbove * below != above * turnBelow) {
                        return false;
                    }
                    turnAbove = isAnyTurn ? turnAbove : above;
                    turnBelow = isAnyTurn ? turnBelow : below;
                }
            }
        }
        return true;
    }

    private static void lockedRows() throws IOException {
        sentence("Terms", "a held axis 0 at x, y gives the row 1, 0, - y, x; a held axis 1 the row 0, 1, x, y; they "
            + "are locked, if the rows have a greater rank than their first three numbers.");
        dueRank("nothing there", new BearingMoves(), 0, 0);
        dueRank("nothing held", withBearings(10), 0, 0);
        dueRank("one row", hold(at(100_000, -100_000), 0, 0), 1, 1);
        dueRank("two rows of one bearing", hold(at(100_000, -100_000), 0, 0, 0, 1), 2, 2);
        int[] near = {0, 0, 1, 0, 0, 1};
        dueRank("axis 0, 1 mm along x", hold(at(near), 0, 0, 1, 0), 2, 1);
        dueRank("axis 0, 1 mm along y", hold(at(near), 0, 0, 2, 0), 2, 2);
        dueRank("axis 1, 1 mm along x", hold(at(near), 0, 1, 1, 1), 2, 2);
        dueRank("axis 1, 1 mm along y", hold(at(near), 0, 1, 2, 1), 2, 1);
        dueRank("fixed, and axis 0 along x", hold(at(near), 0, 0, 0, 1, 1, 0), 3, 2);
        dueRank("fixed, and axis 1 along x", hold(at(near), 0, 0, 0, 1, 1, 1), 3, 3);
        dueRank("fixed, and fixed", hold(at(near), 0, 0, 0, 1, 1, 0, 1, 1), 4, 3);
        int[] aslant = {5, 5, 6, 6, 4, 6};
        dueRank("axis 0 aslant", hold(at(aslant), 0, 0, 1, 0), 2, 2);
        dueRank("fixed, and axis 0 aslant", hold(at(aslant), 0, 0, 0, 1, 1, 0), 3, 3);
        dueRank("fixed, and axis 1 aslant", hold(at(aslant), 0, 0, 0, 1, 1, 1), 3, 3);
        dueRank("fixed, and fixed aslant", hold(at(aslant), 0, 0, 0, 1, 1, 0, 1, 1), 4, 3);
        dueRank("two that turn alike", hold(at(aslant), 0, 0, 0, 1, 1, 0, 2, 1), 3, 3);
        dueRank("two that turn otherwise", hold(at(aslant), 0, 0, 0, 1, 1, 0, 2, 0), 4, 3);
        dueRank("in one place", hold(at(7, 7, 7, 7), 0, 0, 0, 1, 1, 0, 1, 1), 2, 2);
        dueRank("in one place, one axis each", hold(at(7, 7, 7, 7), 0, 0, 1, 1), 2, 2);
        int[] ends = {-100_000, -100_000, 100_000, 100_000, 100_000, 99_999};
        dueRank("far and parallel", hold(at(ends), 0, 0, 1, 0, 0, 1), 3, 3);
        dueRank("far and nearly parallel", hold(at(ends), 0, 0, 1, 0, 2, 0), 3, 2);
        int[] wraps = {0, 0, 65_536, 0, 0, 65_536};
        dueRank("a product that an int has no room for, axis 0", hold(at(wraps), 0, 0, 1, 0, 2, 0), 3, 2);
        dueRank("a product that an int has no room for, axis 1", hold(at(wraps), 0, 1, 1, 1, 2, 1), 3, 2);
        int[] ten = {0, 0, 0, 0, 0, 0, 0, 0, 0, 0, 0, 0, 0, 0, 0, 0, 0, 0, 5, 0};
        int[] allButTheLast = {0, 0, 1, 0, 2, 0, 3, 0, 4, 0, 5, 0, 6, 0, 7, 0, 8, 0};
        dueRank("nine in one place", hold(at(ten), allButTheLast), 1, 1);
        dueRank("the tenth counts", hold(hold(at(ten), allButTheLast), 9, 0), 2, 1);
    }

    private static void jointBounds() throws IOException {
        sentence("Terms", "A JOINT at a bearing has a LENGTH (0 .. 1,000,000 mm), a GAP (- 10,000 .. 10,000, "
            + "thousandths of a mm) at a WARMTH (tenths of a degree, - 600 .. 900).");
        dueRange("a joint's length", 0, 1_000_000, length -> withBearings(1).joint(0, length, 1, 1));
        dueRange("a joint's gap", -10_000, 10_000, gap -> withBearings(1).joint(0, 1, gap, 1));
        dueRange("a joint's warmth", -600, 900, warmth -> withBearings(1).joint(0, 1, 1, warmth));
        dueGap(withJoint(0, 10_000, 0), 0, 10, 1);
        dueGap(withJoint(0, -10_000, 0), 0, -10, 1);
        dueGap(withJoint(0, 9_999, 0), 0, 9_999, 1_000);
        dueGap(withJoint(0, 1, 0), 0, 1, 1_000);
        dueGap(withJoint(0, -1, 0), 0, -1, 1_000);
    }

    private static void dueGap(BearingMoves x, int warmth, long upper, long lower) {
        dueParts("the gap at " + warmth, part -> x.gap(0, warmth, part), upper, lower);
    }

    private static void growthOfGaps() throws IOException {
        sentence("Terms", "With each degree more the gap is less by the length by 12 millionths.");
        dueGap(withJoint(1_000_000, 0, 0), 10, -12, 1);
        dueGap(withJoint(1_000_000, 0, 0), -10, 12, 1);
        dueGap(withJoint(1, 0, 0), 1, -3, 2_500_000);
        dueGap(withJoint(1, 0, 0), -1, 3, 2_500_000);
        dueGap(withJoint(0, 0, 0), 900, 0, 1);
        dueGap(withJoint(1_000_000, 10_000, -600), 900, -1_790, 1);
        dueGap(withJoint(1_000_000, -10_000, -600), 900, -1_810, 1);
        dueGap(withJoint(1_000_000, 10_000, 900), -600, 1_810, 1);
        dueGap(withJoint(1_000_000, -10_000, 900), -600, 1_790, 1);
        dueGap(withJoint(999_999, 10_000, -600), 900, -8_949_991, 5_000);
        dueGap(withJoint(1_000_000, 10_000, 900), 900, 10, 1);
        dueGap(withJoint(1_000_000, 10_000, -600), -600, 10, 1);
    }

    // Promises

    private static void newObject() throws IOException {
        sentence("Promise 1", "No bearings, no rules, no days.");
        BearingMoves x = new BearingMoves();
        for (int what = 0; what <= 6; what++) {
            due("count(" + what + ")", x.count(what), 0);
        }
        due("held()", x.held(0, 0, true), false);
        due("value()", x.value(0, 0, 0, 1, 1), false);
        due("sum()", x.sum(0, 0, 0, 0), BAD);
        due("sum(), the sign", x.sum(0, 0, 0, -1), NONE);
        due("caseOf()", x.caseOf(0, 0, 0), BAD);
        due("locked()", x.locked(), false);
        due("rank(true)", x.rank(true), 0);
        due("rank(false)", x.rank(false), 0);
        due("direction()", x.direction(0, 0), BAD);
        due("joint()", x.joint(0, 0, 0, 0), false);
        due("gap()", x.gap(0, 0, 0), BAD);
        due("gap(), the sign", x.gap(0, 0, -1), NONE);
        due("travel()", x.travel(0, 0), BAD);
        due("travel(), the sign", x.travel(0, -1), NONE);
        due("best()", x.best(0), BAD);
        due("jack()", x.jack(1, 1), BAD);
        due("raised()", x.raised(0, 0), BAD);
        due("inspect()", x.inspect(0), BAD);
        due("rules()", x.rules(), -1);
        due("the first bearing", x.bearing(0, 0), 0);
        due("the first day", x.day(0), 1);
        due("the first in the list", x.list(0, 0), 0);
        due("the first sign", x.unit('+'), true);
        BearingMoves other = new BearingMoves();
        for (int what = 0; what <= 6; what++) {
            due("another object's count(" + what + ")", other.count(what), 0);
        }
    }

    private static void bearingPromise() throws IOException {
        sentence("Promise 2", "One more bearing: which one.");
        BearingMoves x = new BearingMoves();
        for (int i = 0; i < 10; i++) {
            due("bearing " + i, x.bearing(100_000, -100_000), i);
        }
        sentence("Promise 2", "BAD: there are 10");
        due("bearing 10", x.bearing(0, 0), BAD);
        due("bearing 10 again", x.bearing(0, 0), BAD);
        due("count(0)", x.count(0), 10);
        sentence("Promise 2", "no such place.");
        int[] outside = {-100_001, 100_001, LOW, HIGH};
        for (int place : outside) {
            BearingMoves y = new BearingMoves();
            due("bearing(" + place + ", 0)", y.bearing(place, 0), BAD);
            due("bearing(0, " + place + ")", y.bearing(0, place), BAD);
            due("bearing(" + place + ", " + place + ")", y.bearing(place, place), BAD);
            due("count(0)", y.count(0), 0);
            due("the next one", y.bearing(-100_000, 100_000), 0);
        }
    }

    private static void heldPromise() throws IOException {
        sentence("Promise 3", "An axis (0, 1) of a bearing is held, or not.");
        BearingMoves x = withBearings(2);
        due("let go what is not held", x.held(1, 1, false), true);
        due("count(5)", x.count(5), 0);
        due("hold", x.held(1, 1, true), true);
        due("hold what is held", x.held(1, 1, true), true);
        due("count(5)", x.count(5), 1);
        due("let go another axis", x.held(1, 0, false), true);
        due("let go another bearing", x.held(0, 1, false), true);
        due("count(5)", x.count(5), 1);
        due("let go", x.held(1, 1, false), true);
        due("count(5)", x.count(5), 0);
        sentence("Promise 3", "False: none such.");
        for (int number = 0; number <= 10; number += 5) {
            BearingMoves y = withBearings(number);
            dueRange("of " + number + ", hold bearing", 0, number - 1, b -> y.held(b, 0, true));
            dueRange("of " + number + ", let go bearing", 0, number - 1, b -> y.held(b, 1, false));
        }
        dueRange("hold axis", 0, 1, axis -> withBearings(1).held(0, axis, true));
        dueRange("let go axis", 0, 1, axis -> withBearings(1).held(0, axis, false));
    }

    private static void valuePromise() throws IOException {
        sentence("Promise 4", "The value of a kind for a bearing and an axis (0 .. 2): above - 1,000,000 .. 1,000,000, "
            + "below 1 .. 1,000.");
        dueRange("above", -1_000_000, 1_000_000, above -> withBearings(1).value(0, 0, 0, above, 1_000));
        dueRange("below", 1, 1_000, below -> withBearings(1).value(0, 0, 0, 1_000_000, below));
        int[][] ends = {{1_000_000, 1}, {-1_000_000, 1}, {1, 1_000}, {-1, 1_000}, {0, 1}, {1, 1}, {-1, 1}};
        for (int[] v : ends) {
            BearingMoves x = withRules(1, "+h");
            due("value()", x.value(7, 0, 2, v[0], v[1]), true);
            dueSum("the value " + v[0] + " / " + v[1], x, 2, 0, v[0], v[1]);
            due("another value in its place", x.value(7, 0, 2, 2, 3), true);
            dueSum("the value 2 / 3", x, 2, 0, 2, 3);
        }
        sentence("Promise 4", "False: none such.");
        dueRange("kind", 0, 7, kind -> withBearings(1).value(kind, 0, 0, 1, 1));
        dueRange("axis", 0, 2, axis -> withBearings(1).value(0, 0, axis, 1, 1));
        for (int number = 0; number <= 10; number += 5) {
            BearingMoves x = withBearings(number);
            dueRange("of " + number + ", bearing", 0, number - 1, b -> x.value(0, b, 0, 1, 1));
        }
    }

    private static void unitPromise() throws IOException {
        sentence("Promise 5", "A sign of 32 .. 126 is collected, at most 200.");
        BearingMoves every = new BearingMoves();
        for (int sign = 32; sign <= 126; sign++) {
            due("unit(" + sign + ")", every.unit(sign), true);
        }
        due("count(6)", every.count(6), 95);
        BearingMoves x = new BearingMoves();
        for (int i = 0; i < 200; i++) {
            due("unit " + i, x.unit('a'), true);
            due("count(6)", x.count(6), i + 1);
        }
        sentence("Promise 5", "False: another one, no room.");
        due("unit 200", x.unit('a'), false);
        due("unit 200 again", x.unit('a'), false);
        due("count(6)", x.count(6), 200);
        due("rules() makes room", x.rules(), -1);
        due("unit 0 again", x.unit('a'), true);
        dueRange("unit()", 32, 126, sign -> new BearingMoves().unit(sign));
        BearingMoves y = new BearingMoves();
        int[] none = {31, 127, 0, -1, 9, 10, '+' + 256, '+' + 65_536, '+' - 256, '+' - 65_536, LOW, HIGH};
        for (int sign : none) {
            due("unit(" + sign + ")", y.unit(sign), false);
            due("count(6)", y.count(6), 0);
        }
    }

    private static void rulesBecomeAndAreGone() throws IOException {
        sentence("Promise 6", "What was collected becomes the rules, and is gone: how many.");
        BearingMoves x = collect(withBearings(1), "+a;-a");
        due("count(1) before", x.count(1), 0);
        due("rules()", x.rules(), 2);
        due("count(1)", x.count(1), 2);
        due("count(6)", x.count(6), 0);
        due("rules() once more: nothing is collected", x.rules(), -1);
        due("count(1)", x.count(1), 2);
        due("other rules in their place", read(x, "*b"), 1);
        due("count(1)", x.count(1), 1);
        due("count(2)", x.count(2), 1);
        String full = repeated(SIX_TERMS, ";", 8);
        due("200 signs", read(x, full + " ".repeat(200 - full.length())), 8);
        due("200 signs again", read(x, " ".repeat(200 - full.length()) + full), 8);
        BearingMoves lost = collect(new BearingMoves(), " ".repeat(198) + "+a+");
        due("a sign that had no room is not read", lost.rules(), 1);
    }

    private static void rulesFirstWrongSign() throws IOException {
        sentence("Promise 6", "- 1 less the number of its first sign that is wrong");
        dueRead("a", -1);
        dueRead("+a!", -3);
        dueRead("!!", -1);
        dueRead("+a x y", -4);
        dueRead("+a;2a;3a", -4);
        dueRead("+i+i", -2);
        dueRead("+0a+i", -2);
        dueRead("+ia+0a", -2);
        dueRead(" ".repeat(199) + "a", -200);
        dueRead("+a" + " ".repeat(197) + "a", -200);
    }

    private static void rulesEndTooEarly() throws IOException {
        sentence("Promise 6", "if it ends too early, the one behind the last");
        String text = "+12/34a;";
        int[] due = {-1, -2, -3, -4, -5, -6, -7, 1, -9};
        for (int length = 0; length <= text.length(); length++) {
            dueRead(text.substring(0, length), due[length]);
            String blanks = text.substring(0, length) + "   ";
            dueRead(blanks, due[length] > 0 ? due[length] : due[length] - 3);
        }
        dueRead("+a-", -4);
        dueRead(" ".repeat(200), -201);
        dueRead(" ".repeat(199) + "+", -201);
        dueRead("+a" + " ".repeat(197) + ";", -201);
        dueRead("+" + " ".repeat(196) + "999", -201);
    }

    private static void rulesWrongNumbers() throws IOException {
        sentence("Promise 6", "of a number with too many digits, or 0 in front, its first digit");
        String[] none = {"0", "00", "01", "000", "012", "0123", "1000", "9999", "1234567890123", "0000000"};
        for (String number : none) {
            dueRead("+" + number + "a", -2);
            dueRead("+" + number, -2);
            dueRead("+" + number + "x", -2);
            dueRead("+a -  " + number + " a", -7);
            dueRead("+1/" + number + "a", -4);
            dueRead("+1/" + number, -4);
            dueRead("+999 / " + number + "/", -8);
            dueRead("+" + number + "/" + number + "a", -2);
        }
    }

    private static void rulesTooMany() throws IOException {
        sentence("Promise 6", "of a rule or term too many, where it begins");
        dueRead(EIGHT_RULES + ";+a", -25);
        dueRead(EIGHT_RULES + ";+", -25);
        dueRead(EIGHT_RULES + ";+0a", -25);
        dueRead(EIGHT_RULES + ";x", -25);
        dueRead(EIGHT_RULES + " ;  +a", -28);
        dueRead(EIGHT_RULES + ";", -25);
        dueRead(EIGHT_RULES + ";;", -25);
        dueRead(EIGHT_RULES + ";+a;+a;+a", -25);
        dueRead(EIGHT_RULES, 8);
        dueRead(SIX_TERMS + "+a", -13);
        dueRead(SIX_TERMS + "-", -13);
        dueRead(SIX_TERMS + "*0a", -13);
        dueRead(SIX_TERMS + "  +a", -15);
        dueRead(SIX_TERMS + "+a;+a", -13);
        dueRead(SIX_TERMS + ";" + SIX_TERMS + "+a", -26);
        dueRead(EIGHT_RULES + "+a+a+a+a+a", 8);
        dueRead(EIGHT_RULES + "+a+a+a+a+a+a", -34);
        dueRead(SIX_TERMS + ";", -14);
        dueRead(SIX_TERMS, 1);
    }

    private static void rulesStay() throws IOException {
        sentence("Promise 6", "what is there of rules stays");
        String[] texts = {"", " ", "+", "+2a;+3a;", "+2a;+3a;+0a", "+2a+b;*9c+1000a", EIGHT_RULES + ";+a",
            SIX_TERMS + "+a", "-999a;-998a;-997a;-996a;-995a;-994a;-993a;-992a x"};
        BearingMoves none = withBearings(1);
        none.value(0, 0, 0, 5, 1);
        BearingMoves some = withRules(1, "+7a;-a-a");
        some.value(0, 0, 0, 5, 1);
        for (String text : texts) {
            due("without rules, '" + text + "' is wrong", read(none, text) < 0, true);
            due("count(1)", none.count(1), 0);
            due("count(2)", none.count(2), 0);
            due("count(6)", none.count(6), 0);
            due("caseOf()", none.caseOf(0, 0, 1), BAD);
            due("the sum", none.sum(0, 0, 1, 0), 0);
            due("with rules, '" + text + "' is wrong", read(some, text) < 0, true);
            due("count(1)", some.count(1), 2);
            due("count(2)", some.count(2), 3);
            due("count(6)", some.count(6), 0);
            due("the case of the least", some.caseOf(0, 0, 0), 1);
            due("the greatest", some.sum(0, 0, 1, 0), 35);
            due("the least", some.sum(0, 0, 0, 0), 10);
        }
    }

    private static void sumPromise() throws IOException {
        sentence("Promise 7", "Of a bearing and an axis (0 .. 2): which 0 the least, 1 the greatest, 2 WORST, by "
            + "parts.");
        BearingMoves x = withRules(1, "+a;-2a");
        x.value(0, 0, 2, 3, 1);
        dueSum("the least", x, 2, 0, -6, 1);
        dueSum("the greatest", x, 2, 1, 3, 1);
        dueSum("WORST", x, 2, 2, -6, 1);
        sentence("Promise 7", "BAD (part - 1: NONE): none such.");
        for (int number = 0; number <= 10; number += 5) {
            BearingMoves y = withRules(number, "+a");
            dueNoneSuch("of " + number + ", bearing", 0, number - 1, (b, part) -> y.sum(b, 0, 0, part));
        }
        BearingMoves y = withRules(1, "+a");
        dueNoneSuch("axis", 0, 2, (axis, part) -> y.sum(0, axis, 0, part));
        dueNoneSuch("which", 0, 2, (which, part) -> y.sum(0, 0, which, part));
        dueRange("part", -1, HIGH, part -> y.sum(0, 0, 0, part), part -> part == 1 ? 1 : 0);
        for (int part : new int[] {-2, -3, LOW, LOW + 1}) {
            due("part " + part, y.sum(0, 0, 0, part), BAD);
        }
    }

    private interface Told {
        long at(int input, int part);
    }

    /** A fraction of 0 for what is there, and for what is not there BAD, or NONE for the sign. */
    private static void dueNoneSuch(String what, int low, int high, Told told) {
        for (int input : new int[] {LOW, low - 1, low, high, high + 1, HIGH}) {
            boolean isThere = input >= low && input <= high;
            due(what + " " + input + ", part -1", told.at(input, -1), isThere ? 0 : NONE);
            due(what + " " + input + ", part 0", told.at(input, 0), isThere ? 0 : BAD);
            due(what + " " + input + ", part 1", told.at(input, 1), isThere ? 1 : BAD);
            due(what + " " + input + ", part HIGH", told.at(input, HIGH), isThere ? 0 : BAD);
            due(what + " " + input + ", part -2", told.at(input, -2), BAD);
            due(what + " " + input + ", part LOW", told.at(input, LOW), BAD);
        }
    }

    private static void caseOfPromise() throws IOException {
        sentence("Promise 8", "The case of the least (0) or of the greatest (1).");
        BearingMoves x = withRules(10, "+a;-a");
        for (int b = 0; b < 10; b++) {
            x.value(0, b, 2, 1, 1);
            due("the least of bearing " + b, x.caseOf(b, 2, 0), 1);
            due("the greatest of bearing " + b, x.caseOf(b, 2, 1), 0);
        }
        sentence("Promise 8", "BAD: none such, no rules.");
        for (int number = 0; number <= 10; number += 5) {
            BearingMoves y = withRules(number, "+a");
            dueRange("of " + number + ", bearing", 0, number - 1, b -> y.caseOf(b, 0, 1), b -> 0);
        }
        BearingMoves y = withRules(1, "+a");
        dueRange("axis", 0, 2, axis -> y.caseOf(0, axis, 0), axis -> 0);
        dueRange("which", 0, 1, which -> y.caseOf(0, 0, which), which -> 0);
        due("no such bearing", y.caseOf(1, 0, 0), BAD);
        due("no such axis", y.caseOf(0, 3, 0), BAD);
        due("WORST has no case", y.caseOf(0, 0, 2), BAD);
        BearingMoves none = withBearings(1);
        due("the least without rules", none.caseOf(0, 0, 0), BAD);
        due("the greatest without rules", none.caseOf(0, 2, 1), BAD);
    }

    private static void lockedPromise() throws IOException {
        sentence("Promise 9", "Whether what is held is locked.");
        BearingMoves x = at(0, 0, 30_000, 0);
        due("nothing held", x.locked(), false);
        hold(x, 0, 0);
        due("one held", x.locked(), false);
        hold(x, 1, 0);
        due("both held", x.locked(), true);
        x.held(0, 0, false);
        due("one let go", x.locked(), false);
        x.held(1, 0, false);
        due("both let go", x.locked(), false);
        BearingMoves ten = withBearings(10);
        for (int b = 0; b < 10; b++) {
            hold(ten, b, 0, b, 1);
            due("locked() with " + (b + 1) + " held on both", ten.locked(), b > 0);
        }
    }

    private static void rankPromise() throws IOException {
        sentence("Promise 10", "The rank of the rows, of all four numbers, or of the first three (without growing).");
        dueRank("nothing there", new BearingMoves(), 0, 0);
        BearingMoves x = withBearings(10);
        dueRank("nothing held", x, 0, 0);
        for (int b = 0; b < 10; b++) {
            hold(x, b, 0, b, 1);
            dueRank((b + 1) + " held on both", x, b == 0 ? 2 : 4, b == 0 ? 2 : 3);
        }
        for (int b = 9; b >= 0; b--) {
            x.held(b, 0, false);
            x.held(b, 1, false);
            dueRank(b + " held on both", x, b == 0 ? 0 : b == 1 ? 2 : 4, b == 0 ? 0 : b == 1 ? 2 : 3);
        }
    }

    private static void directionPromise() throws IOException {
        sentence("Promise 11", "Where a bearing moves when all grows, as from the first bearing that is held on both "
            + "axes: 0 along x, 1 along y, both divided by what divides both.");
        BearingMoves x = hold(at(-100_000, -100_000, 100_000, 100_000, 100_000, 99_999, -100_000, 100_000, 100_000,
            -100_000, -99_999, -100_000, -100_000, -100_000), 0, 0, 0, 1);
        int[][] due = {{0, 0}, {1, 1}, {200_000, 199_999}, {0, 1}, {1, 0}, {1, 0}, {0, 0}};
        dueDirections(x, due);
        BearingMoves back = hold(at(100_000, 100_000, -100_000, -100_000, -100_000, -99_999, 100_000, -100_000,
            -100_000, 100_000), 0, 0, 0, 1);
        dueDirections(back, new int[][] {{0, 0}, {-1, -1}, {-200_000, -199_999}, {0, -1}, {-1, 0}});
        BearingMoves later = hold(at(0, 0, 5, 5, 6, 8, 9, 9), 0, 0, 1, 1, 2, 0, 2, 1, 3, 0, 3, 1);
        dueDirections(later, new int[][] {{-3, -4}, {-1, -3}, {0, 0}, {3, 1}});
        hold(later, 0, 1);
        dueDirections(later, new int[][] {{0, 0}, {1, 1}, {3, 4}, {1, 1}});
        sentence("Promise 11", "BAD (which may be one, too): none such; no such bearing.");
        int[] along = {0, 100, 50, 100, 25, 20, 50, 100, 25, 100};
        for (int number = 0; number <= 10; number += 5) {
            BearingMoves y = hold(withBearings(number), 0, 0, 0, 1);
            dueRange("of " + number + ", bearing", 0, number - 1, b -> y.direction(b, 0), b -> along[b]);
        }
        dueRange("axis", 0, 1, axis -> hold(at(0, 0, 3, 3), 0, 0, 0, 1).direction(1, axis), axis -> 1);
        due("no such bearing", later.direction(4, 0), BAD);
        due("no such axis", later.direction(0, 2), BAD);
        due("an answer that is -1, too", hold(at(1, 1, 0, 0), 0, 0, 0, 1).direction(1, 0), -1);
        due("nothing held", withBearings(2).direction(1, 0), BAD);
        BearingMoves apart = hold(withBearings(2), 0, 0, 1, 1);
        due("held on both axes, but not one bearing", apart.direction(1, 0), BAD);
        hold(apart, 0, 1);
        due("held on both", apart.direction(1, 0), 100);
        apart.held(0, 0, false);
        due("let go on one axis", apart.direction(1, 0), BAD);
    }

    private static void dueDirections(BearingMoves x, int[][] due) {
        for (int b = 0; b < due.length; b++) {
            due("direction(" + b + ", 0)", x.direction(b, 0), due[b][0]);
            due("direction(" + b + ", 1)", x.direction(b, 1), due[b][1]);
        }
    }

    private static void jointPromise() throws IOException {
        sentence("Promise 12", "A bearing's joint.");
        BearingMoves x = withBearings(10);
        for (int b = 0; b < 10; b++) {
            due("joint()", x.joint(b, 0, 1_000 * (b - 5), 0), true);
        }
        for (int b = 0; b < 10; b++) {
            due("gap() of " + b, x.gap(b, 0, 0), Math.abs(b - 5));
        }
        due("another joint in its place", x.joint(9, 1_000_000, 0, 900), true);
        due("its gap", x.gap(9, 890, 0), 12);
        sentence("Promise 12", "False: none such.");
        for (int number = 0; number <= 10; number += 5) {
            BearingMoves y = withBearings(number);
            dueRange("of " + number + ", bearing", 0, number - 1, b -> y.joint(b, 1, 1, 1));
        }
        dueRange("length", 0, 1_000_000, length -> withBearings(1).joint(0, length, 10_000, 900));
        dueRange("gap", -10_000, 10_000, gap -> withBearings(1).joint(0, 1_000_000, gap, -600));
        dueRange("warmth", -600, 900, warmth -> withBearings(1).joint(0, 0, -10_000, warmth));
    }

    private static void gapAtAWarmth() throws IOException {
        sentence("Promise 13", "The gap at a warmth, in mm, by parts");
        int[][] joints = {{1_000_000, 10_000, 900}, {999_983, -9_973, -600}, {0, 7, 3}, {1, -1, 0},
            {25_000, 2_500, 100}};
        for (int[] joint : joints) {
            for (int warmth = -600; warmth <= 900; warmth += 50) {
                BigInteger upper = BigInteger.valueOf(joint[1] * 10_000L - 12L * joint[0] * (warmth - joint[2]));
                BigInteger lower = BigInteger.valueOf(10_000_000);
                BigInteger common = upper.gcd(lower);
                BearingMoves x = withJoint(joint[0], joint[1], joint[2]);
                int asked = warmth;
                dueParts("the gap of " + Arrays.toString(joint) + " at " + warmth, part -> x.gap(0, asked, part),
                    upper.divide(common), lower.divide(common));
            }
        }
    }

    private static void gapPromise() throws IOException {
        sentence("Promise 13", "(of a bearing without a joint: length 0, gap 0)");
        BearingMoves x = withBearings(1);
        for (int warmth : new int[] {-600, -1, 0, 1, 900}) {
            dueGap(x, warmth, 0, 1);
        }
        sentence("Promise 13", "BAD (part - 1: NONE): none such.");
        for (int number = 0; number <= 10; number += 5) {
            BearingMoves y = withBearings(number);
            dueNoneSuch("of " + number + ", bearing", 0, number - 1, (b, part) -> y.gap(b, 0, part));
        }
        dueNoneSuch("warmth", -600, 900, (warmth, part) -> x.gap(0, warmth, part));
        dueRange("part", -1, HIGH, part -> x.gap(0, 0, part), part -> part == 1 ? 1 : 0);
        BearingMoves below = withJoint(0, -1, 0);
        due("a sign that is -1, too", below.gap(0, 0, -1), -1);
        due("no such warmth, the sign", below.gap(0, 901, -1), NONE);
        due("no such part", below.gap(0, 0, -2), BAD);
    }

    private static void dayPromise() throws IOException {
        sentence("Promise 14", "A day has a warmth: how many days there are.");
        BearingMoves x = new BearingMoves();
        for (int i = 1; i <= 400; i++) {
            due("day " + i, x.day(i % 2 == 0 ? -600 : 900), i);
        }
        sentence("Promise 14", "BAD: no such warmth; there are 400.");
        due("day 401", x.day(0), BAD);
        due("day 401 again", x.day(0), BAD);
        due("count(3)", x.count(3), 400);
        dueRange("day()", -600, 900, warmth -> new BearingMoves().day(warmth), warmth -> 1);
        BearingMoves y = new BearingMoves();
        for (int warmth : new int[] {-601, 901, LOW, HIGH}) {
            due("day(" + warmth + ")", y.day(warmth), BAD);
            due("count(3)", y.count(3), 0);
        }
    }

    private static void travelPromise() throws IOException {
        sentence("Promise 15", "How far the joint of a bearing has moved in all, day by day, in mm: the sum of its "
            + "ways without signs, by parts.");
        BearingMoves x = withJoint(1_000_000, 0, 0);
        dueTravel(x, "no days", 0, 1);
        x.day(0);
        dueTravel(x, "one day", 0, 1);
        x.day(0);
        dueTravel(x, "a day that moves nothing", 0, 1);
        x.day(1);
        dueTravel(x, "a tenth of a degree more", 6, 5);
        x.day(0);
        dueTravel(x, "and less", 12, 5);
        x.day(900);
        x.day(-600);
        dueTravel(x, "to both ends", 14_412, 5);
        x.day(901);
        x.day(-601);
        dueTravel(x, "days that were refused", 14_412, 5);
        x.joint(0, 0, 10_000, -600);
        dueTravel(x, "a joint of length 0", 0, 1);
        x.joint(0, 1, 10_000, 900);
        dueTravel(x, "a joint of length 1", 3_603, 1_250_000);
        BearingMoves most = withJoint(1_000_000, 0, 0);
        for (int i = 0; i < 400; i++) {
            most.day(i % 2 == 0 ? -600 : 900);
        }
        dueTravel(most, "400 days", 399 * 1_800, 1);
        most.day(-600);
        dueTravel(most, "a day too many", 399 * 1_800, 1);
        BearingMoves without = withBearings(1);
        without.day(-600);
        without.day(900);
        dueTravel(without, "no joint", 0, 1);
        sentence("Promise 15", "BAD (part - 1: NONE): none such.");
        for (int number = 0; number <= 10; number += 5) {
            BearingMoves y = withBearings(number);
            dueNoneSuch("of " + number + ", bearing", 0, number - 1, (b, part) -> y.travel(b, part));
        }
        dueRange("part", -1, HIGH, part -> without.travel(0, part), part -> part == 1 ? 1 : 0);
    }

    private static void dueTravel(BearingMoves x, String what, long upper, long lower) {
        dueParts(what + ": the travel", part -> x.travel(0, part), upper, lower);
    }

    private static void listPromise() throws IOException {
        sentence("Promise 16", "One more in the list: a bearing for moves up to some mm (0 .. 100,000), and a load "
            + "(0 .. 10,000,000): which one.");
        dueRange("moves", 0, 100_000, moves -> new BearingMoves().list(moves, 0), moves -> 0);
        dueRange("load", 0, 10_000_000, load -> new BearingMoves().list(0, load), load -> 0);
        BearingMoves x = new BearingMoves();
        for (int i = 0; i < 12; i++) {
            due("list " + i, x.list(100_000, 10_000_000), i);
            due("count(4)", x.count(4), i + 1);
        }
        sentence("Promise 16", "BAD: none such; there are 12.");
        due("list 12", x.list(0, 0), BAD);
        due("list 12 again", x.list(0, 0), BAD);
        due("count(4)", x.count(4), 12);
        BearingMoves y = new BearingMoves();
        int[][] none = {{-1, 0}, {100_001, 0}, {0, -1}, {0, 10_000_001}, {LOW, 0}, {0, LOW}, {HIGH, 0}, {0, HIGH}};
        for (int[] v : none) {
            due("list(" + v[0] + ", " + v[1] + ")", y.list(v[0], v[1]), BAD);
            due("count(4)", y.count(4), 0);
        }
    }

    /** Bearing 0 with the sums of +10a+1/999b, of whole numbers and of so many 999,000th parts, on all axes. */
    private static BearingMoves needing(int[] wholes, int[] littles) {
        BearingMoves x = withRules(1, "+10a+1/999b");
        for (int axis = 0; axis < 3; axis++) {
            x.value(0, 0, axis, wholes[axis], 10);
            x.value(1, 0, axis, littles[axis], 1_000);
        }
        return x;
    }

    private static void dueBest(String what, int due, int moves, int load, int[] wholes, int... littles) {
        BearingMoves x = needing(wholes, littles);
        x.list(moves, load);
        due(what, x.best(0), due);
    }

    private static void bestOfEachBearing() throws IOException {
        sentence("Promise 17", "The one in the list that holds a bearing");
        BearingMoves x = withRules(10, "*a");
        for (int i = 0; i < 10; i++) {
            x.value(0, i, i % 2, i % 3 == 0 ? -i : i, 1);
            x.value(0, i, 2, 10 * i, 1);
            due("list " + i, x.list(9 - i, 100 - 10 * (i + 1)), i);
        }
        for (int i = 0; i < 10; i++) {
            due("the one that holds bearing " + i, x.best(i), 9 - i);
        }
    }

    private static void bestHolds() throws IOException {
        sentence("Promise 17", "its moves are not below WORST (without sign) of axes 0 and 1, its load not below the "
            + "greatest of axis 2");
        dueBest("all is 0", 0, 0, 0, new int[] {0, 0, 0}, 0, 0, 0);
        dueBest("a little along x", BAD, 0, 0, new int[] {0, 0, 0}, 1, 0, 0);
        dueBest("a little back along x", BAD, 0, 0, new int[] {0, 0, 0}, -1, 0, 0);
        dueBest("a little along y", BAD, 0, 0, new int[] {0, 0, 0}, 0, 1, 0);
        dueBest("a little back along y", BAD, 0, 0, new int[] {0, 0, 0}, 0, -1, 0);
        dueBest("a little load", BAD, 0, 0, new int[] {0, 0, 0}, 0, 0, 1);
        dueBest("a little less than no load", 0, 0, 0, new int[] {0, 0, 0}, 0, 0, -1);
        dueBest("far less than no load", 0, 0, 0, new int[] {0, 0, -1_000_000}, 0, 0, 0);
        dueBest("just held along x", 0, 7, 9, new int[] {7, 0, 0}, 0, 0, 0);
        dueBest("just held back along x", 0, 7, 9, new int[] {-7, 0, 0}, 0, 0, 0);
        dueBest("just held along y", 0, 7, 9, new int[] {0, 7, 0}, 0, 0, 0);
        dueBest("just held back along y", 0, 7, 9, new int[] {0, -7, 0}, 0, 0, 0);
        dueBest("just held load", 0, 7, 9, new int[] {7, -7, 9}, 0, 0, 0);
        dueBest("a little more along x", BAD, 7, 9, new int[] {7, 0, 0}, 1, 0, 0);
        dueBest("a little more back along x", BAD, 7, 9, new int[] {-7, 0, 0}, -1, 0, 0);
        dueBest("a little more along y", BAD, 7, 9, new int[] {0, 7, 0}, 0, 1, 0);
        dueBest("a little more back along y", BAD, 7, 9, new int[] {0, -7, 0}, 0, -1, 0);
        dueBest("a little more load", BAD, 7, 9, new int[] {7, -7, 9}, 0, 0, 1);
        dueBest("a little less of all", 0, 7, 9, new int[] {7, -7, 9}, -1, 1, -1);
        dueBest("the most moves", 0, 100_000, 0, new int[] {100_000, -100_000, 0}, 0, 0, 0);
        dueBest("more than the most moves", BAD, 100_000, 0, new int[] {100_000, 0, 0}, 1, 0, 0);
        bestOfGreatLoads();
        bestOfLoadsOfBothSigns();
        bestOfNextToNothing();
    }

    /** 84 parts of some 10 to the power of 12 are more than 0. */
    private static void bestOfNextToNothing() {
        for (int axis = 0; axis < 3; axis++) {
            BearingMoves x = withRules(1, "-1/991a+1/977b");
            x.value(0, 0, axis, 1, 983);
            x.value(1, 0, axis, 1, 997);
            x.list(0, 0);
            due("next to nothing on axis " + axis, x.best(0), BAD);
            x.list(1, 1);
            due("next to nothing on axis " + axis, x.best(0), 1);
        }
    }

    private static void bestOfLoadsOfBothSigns() {
        BearingMoves x = withRules(1, "+a;-2a");
        x.value(0, 0, 2, 5, 1);
        x.list(0, 4);
        due("WORST is below 0, but the greatest is not held", x.best(0), BAD);
        x.list(0, 5);
        due("the greatest is just held, WORST does not matter", x.best(0), 1);
        x.value(0, 0, 2, -5, 1);
        due("the greatest is 10", x.best(0), BAD);
        x.list(0, 10);
        due("the greatest is 10", x.best(0), 2);
    }

    private static void bestOfGreatLoads() {
        BearingMoves x = withRules(1, "+10a+1/999b");
        x.list(0, 10_000_000);
        x.value(0, 0, 2, 1_000_000, 1);
        due("the most load", x.best(0), 0);
        x.value(1, 0, 2, 1, 1_000);
        due("more than the most load", x.best(0), BAD);
        x.value(1, 0, 2, -1, 1_000);
        due("less than the most load", x.best(0), 0);
        read(x, "*a");
        x.value(0, 0, 0, -3, 1);
        x.list(2, 10_000_000);
        due("WORST is the greatest of both signs", x.best(0), BAD);
        x.list(3, 10_000_000);
        due("WORST is the greatest of both signs", x.best(0), 2);
        read(x, "-a;+2a");
        x.value(0, 0, 0, -1, 1);
        due("WORST is the least, and just held", x.best(0), 1);
        x.value(0, 0, 0, -2, 1);
        due("WORST is the least, and is not held", x.best(0), BAD);
        read(x, "+a;-2a");
        x.value(0, 0, 0, 1, 1);
        due("WORST is the least below 0, and just held", x.best(0), 1);
        x.value(0, 0, 1, 2, 1);
        due("WORST of axis 1 is the least", x.best(0), BAD);
        x.value(0, 0, 0, 0, 1);
        x.value(0, 0, 1, 0, 1);
        read(x, "+999a+999a+999a+999a+999a+999a");
        due("far more than the most load", x.best(0), BAD);
        read(x, "-999a");
        x.value(0, 0, 0, 0, 1);
        due("far less than no load", x.best(0), 0);
    }

    private static void bestOfSeveral() throws IOException {
        sentence("Promise 17", "the least load of these, then the least moves, then the first one.");
        BearingMoves x = withBearings(1);
        int[][] listed = {{100_000, 10_000_000}, {100_000, 10_000_000}, {99_999, 10_000_000}, {100_000, 9_999_999},
            {99_998, 9_999_999}, {99_998, 9_999_999}, {100_000, 1}, {1, 1}, {1, 1}, {100_000, 0}, {0, 0}, {0, 0}};
        int[] due = {0, 0, 2, 3, 4, 4, 6, 7, 7, 9, 10, 10};
        for (int i = 0; i < listed.length; i++) {
            x.list(listed[i][0], listed[i][1]);
            due("the best of " + (i + 1), x.best(0), due[i]);
        }
    }

    private static void bestOfNone() throws IOException {
        sentence("Promise 17", "BAD: none does; no such bearing.");
        due("an empty list", withBearings(1).best(0), BAD);
        for (int number = 0; number <= 10; number += 5) {
            BearingMoves x = withBearings(number);
            x.list(0, 0);
            dueRange("of " + number + ", bearing", 0, number - 1, b -> x.best(b), b -> 0);
        }
        BearingMoves x = withRules(2, "+a");
        x.value(0, 1, 0, 6, 1);
        for (int i = 0; i < 12; i++) {
            x.list(5, 5);
        }
        due("none of 12 holds", x.best(1), BAD);
        due("another bearing", x.best(0), 0);
        due("no such bearing", x.best(2), BAD);
    }

    private static void jackPromise() throws IOException {
        sentence("Promise 18", "All bearings are to be raised by a height (1 .. 10,000), one behind the other, none "
            + "ever by more than most (1 .. 10,000) above another one");
        dueRange("height", 1, 10_000, height -> withBearings(1).jack(height, 1), height -> height);
        dueRange("most", 1, 10_000, most -> withBearings(1).jack(1, most), most -> 1);
        int[][] jacks = {{10, 3}, {9, 3}, {1, 10_000}, {10_000, 2_500}, {10_000, 9_999}, {10_000, 10_000}};
        for (int[] jack : jacks) {
            BearingMoves x = withBearings(4);
            int all = x.jack(jack[0], jack[1]);
            for (int step = 0; step <= all; step++) {
                int highest = 0;
                int lowest = HIGH;
                for (int b = 0; b < 4; b++) {
                    highest = Math.max(highest, x.raised(step, b));
                    lowest = Math.min(lowest, x.raised(step, b));
                }
                due("not above another by more than most, step " + step, highest - lowest <= jack[1], true);
                due("all are there, step " + step, lowest == jack[0], step == all);
            }
        }
        sentence("Promise 18", "bearing by bearing each is raised by most (or to the height), and again, until all are "
            + "there: how many raisings.");
        int[][] due = {{1, 1, 1}, {1, 10_000, 1}, {10_000, 10_000, 1}, {10_000, 9_999, 2}, {10_000, 5_000, 2},
            {10_000, 4_999, 3}, {10_000, 1, 10_000}, {9, 3, 3}, {10, 3, 4}, {11, 3, 4}, {12, 3, 4}, {13, 3, 5}};
        for (int number = 1; number <= 10; number++) {
            BearingMoves x = withBearings(number);
            for (int[] v : due) {
                due("jack(" + v[0] + ", " + v[1] + ") of " + number, x.jack(v[0], v[1]), v[2] * number);
            }
        }
        sentence("Promise 18", "BAD: none such, no bearings.");
        due("no bearings", new BearingMoves().jack(1, 1), BAD);
        BearingMoves x = withBearings(1);
        for (int wrongOne : new int[] {0, -1, 10_001, LOW, HIGH}) {
            due("height " + wrongOne, x.jack(wrongOne, 1), BAD);
            due("most " + wrongOne, x.jack(1, wrongOne), BAD);
            due("both " + wrongOne, x.jack(wrongOne, wrongOne), BAD);
        }
    }

    private static void raisedPromise() throws IOException {
        sentence("Promise 19", "How high a bearing is behind so many raisings (0 .. all) of the last jack().");
        BearingMoves x = withBearings(2);
        x.jack(5, 2);
        int[][] heights = {{0, 0}, {2, 0}, {2, 2}, {4, 2}, {4, 4}, {5, 4}, {5, 5}};
        for (int step = 0; step < heights.length; step++) {
            due("raised(" + step + ", 0)", x.raised(step, 0), heights[step][0]);
            due("raised(" + step + ", 1)", x.raised(step, 1), heights[step][1]);
        }
        dueRange("step", 0, 6, step -> x.raised(step, 0), step -> heights[step][0]);
        x.jack(1, 1);
        dueRange("step of the last jack()", 0, 2, step -> x.raised(step, 0), step -> step == 0 ? 0 : 1);
        BearingMoves ten = withBearings(10);
        ten.jack(10_000, 1);
        dueRange("step of the longest jack()", 0, 100_000, step -> ten.raised(step, 9), step -> step / 10);
        due("the last but one", ten.raised(99_999, 9), 9_999);
        due("the last but one", ten.raised(99_999, 8), 10_000);
        due("the last", ten.raised(100_000, 9), 10_000);
        due("the first", ten.raised(1, 0), 1);
        due("the first", ten.raised(1, 1), 0);
        sentence("Promise 19", "BAD: none such; no jack() since bearings came.");
        for (int number = 0; number <= 10; number += 5) {
            BearingMoves y = withBearings(number);
            due("no jack() yet", y.raised(0, 0), BAD);
            y.jack(7, 7);
            int all = number;
            dueRange("of " + number + ", bearing", 0, number - 1, b -> y.raised(all, b), b -> 7);
        }
        BearingMoves grows = withBearings(1);
        for (int number = 1; number < 10; number++) {
            grows.jack(7, 7);
            due("behind jack()", grows.raised(number, 0), 7);
            grows.bearing(0, 0);
            due("a bearing came: step 0", grows.raised(0, 0), BAD);
            due("a bearing came: the last step", grows.raised(number, 0), BAD);
            due("a bearing came: its own height", grows.raised(0, number), BAD);
        }
        grows.jack(7, 7);
        due("an eleventh does not come", grows.bearing(0, 0), BAD);
        due("behind the last jack()", grows.raised(10, 9), 7);
    }

    private static void inspectEachOnce() throws IOException {
        sentence("Promise 20", "The bearing that is inspected in place k");
        for (int number = 1; number <= 10; number++) {
            BearingMoves x = withRules(number, "+a;-b");
            x.day(0);
            x.day(100);
            for (int b = 0; b < number; b++) {
                x.joint(b, b * 7 % 4, 0, 0);
                x.value(0, b, 2, b * 3 % 5, 1);
                x.value(1, b, 2, b * 5 % 3, 1);
            }
            boolean[] isSeen = new boolean[number];
            for (int k = 0; k < number; k++) {
                int bearing = x.inspect(k);
                boolean isNew = bearing >= 0 && bearing < number && !isSeen[bearing];
                due("of " + number + ", place " + k + " has a bearing that no place before has", isNew, true);
                if (isNew) {
                    isSeen[bearing] = true;
                }
                due("of " + number + ", place " + k + " asked again", x.inspect(k), bearing);
            }
        }
    }

    private static void inspectPromise() throws IOException {
        sentence("Promise 20", "more travel first, then the greater of their greatest sums of axis 2, then the lesser "
            + "number.");
        BearingMoves x = withBearings(10);
        dueOrder("nothing tells them apart", x, 0, 1, 2, 3, 4, 5, 6, 7, 8, 9);
        for (int b = 0; b < 10; b++) {
            x.joint(b, b, 0, 0);
        }
        dueOrder("no days", x, 0, 1, 2, 3, 4, 5, 6, 7, 8, 9);
        x.day(1);
        dueOrder("one day", x, 0, 1, 2, 3, 4, 5, 6, 7, 8, 9);
        x.day(0);
        dueOrder("the most travel last", x, 9, 8, 7, 6, 5, 4, 3, 2, 1, 0);
        for (int b = 0; b < 10; b++) {
            x.joint(b, 999_999 + b % 2, 0, 0);
            x.value(0, b, 2, b < 5 ? 1 : -1, 1_000);
            x.value(1, b, 2, b, 1_000);
        }
        read(x, "+a");
        dueOrder("a mm of length", x, 1, 3, 5, 7, 9, 0, 2, 4, 6, 8);
        read(x, "-a;+2a");
        dueOrder("the greatest of two rules", x, 1, 3, 5, 7, 9, 0, 2, 4, 6, 8);
        read(x, "-a");
        dueOrder("the greatest is below 0", x, 5, 7, 9, 1, 3, 6, 8, 0, 2, 4);
        read(x, "+a+1/999b");
        dueOrder("very little more", x, 3, 1, 9, 7, 5, 4, 2, 0, 8, 6);
        BearingMoves near = withRules(2, NEAR_MORE + ";" + NEAR_LESS);
        nearlyEqual(near, 1, 0);
        dueOrder("more by the least", near, 1, 0);
        near = withRules(2, NEAR_MORE + ";" + NEAR_LESS);
        nearlyEqual(near, 0, 1);
        dueOrder("less by the least", near, 0, 1);
        sentence("Promise 20", "BAD: none such.");
        for (int number = 0; number <= 10; number++) {
            BearingMoves y = withBearings(number);
            dueRange("of " + number + ", place", 0, number - 1, k -> y.inspect(k), k -> k);
            due("behind the last", y.inspect(number), BAD);
            due("place -1", y.inspect(-1), BAD);
        }
    }

    private static void dueOrder(String what, BearingMoves x, int... order) {
        for (int k = 0; k < order.length; k++) {
            due(what + ": inspect(" + k + ")", x.inspect(k), order[k]);
        }
    }

    private static void countPromise() throws IOException {
        sentence("Promise 21", "0 bearings, 1 rules, 2 terms in all, 3 days, 4 the list, 5 what is held in all, 6 "
            + "signs collected.");
        BearingMoves x = new BearingMoves();
        dueCounts("nothing there", x, 0, 0, 0, 0, 0, 0, 0);
        for (int b = 0; b < 11; b++) {
            x.bearing(b, b);
            hold(x, b, 0, b, 1);
        }
        read(x, repeated(SIX_TERMS, ";", 8));
        for (int i = 0; i < 13; i++) {
            x.list(1, 1);
        }
        collect(x, " ".repeat(201));
        int[] counts = {10, 8, 48, 0, 12, 20, 200};
        dueCounts("all that there is room for", x, counts);
        BearingMoves days = new BearingMoves();
        for (int i = 0; i < 401; i++) {
            days.day(0);
        }
        dueCounts("all days", days, 0, 0, 0, 400, 0, 0, 0);
        sentence("Promise 21", "BAD: another number.");
        dueRange("count()", 0, 6, x::count, what -> counts[what]);
        due("count(7)", x.count(7), BAD);
        due("count(-1)", x.count(-1), BAD);
    }

    private static void dueCounts(String what, BearingMoves x, int... counts) {
        for (int i = 0; i < counts.length; i++) {
            due(what + ": count(" + i + ")", x.count(i), counts[i]);
        }
    }
}
