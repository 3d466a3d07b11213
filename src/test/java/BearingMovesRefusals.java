import java.util.ArrayList;
import java.util.Arrays;
import java.util.List;

/**
 * What a refused call leaves: each call that answers BAD, NONE or false, and each rules() that answers below 0, is
 * made on an object that is then asked for all that it tells, and goes on; it must answer as one that had no such
 * call. A line that is wrong says the promise and the sentence that refuses.
 */
public final class BearingMovesRefusals {
    private static final int BAD = -1, NONE = -2;
    private static final int LOW = Integer.MIN_VALUE, HIGH = Integer.MAX_VALUE;
    private static final int BEARINGS = 3, NO_PART = -1;
    private static final String PENDING = "+2/3a ;*";

    private static final int[] BEARING = {0, BEARINGS - 1, 1};
    private static final int[] PLACE = {-100_000, 100_000, 7};
    private static final int[] HELD_AXIS = {0, 1, 1};
    private static final int[] AXIS = {0, 2, 2};
    private static final int[] WARMTH = {-600, 900, 33};

    private static int wrong = 0;
    private static int refusals = 0;

    private interface Call {
        long on(BearingMoves x, int[] inputs);
    }

    public static void main(String[] args) {
        List<Refusal> all = all();
        for (Refusal refusal : all) {
            onMuch(refusal);
            onNothing(refusal);
        }
        wrongRules();
        noRoomForBearings();
        noRoomForSigns();
        noRoomInTheList();
        noRoomForDays();
        noJackSinceBearingsCame();
        manyRefusalsInARow(all);
        System.out.println(wrong == 0 ? refusals + " refusals leave all as it was" : wrong + " answers are not as due");
        if (wrong != 0) {
            System.exit(1);
        }
    }

    private static void due(String what, long got, long want) {
        if (got != want) {
            wrong++;
            System.out.println(what + " answered " + got + ", due is " + want);
        }
    }

    private static void dueLife(String what, List<String> got, List<String> want) {
        refusals++;
        if (got.size() != want.size()) {
            wrong++;
            System.out.println(what + ": " + got.size() + " answers, due are " + want.size());
            return;
        }
        for (int i = 0; i < want.size(); i++) {
            if (!got.get(i).equals(want.get(i))) {
                wrong++;
                System.out.println(what + ": then " + got.get(i) + ", due is " + want.get(i));
                return;
            }
        }
    }

    private static long bool(boolean is) {
        return is ? 1 : 0;
    }

    /** A call with, for each input, the least and the greatest that is taken, and one that is. */
    private static final class Refusal {
        final String sentence;
        final String name;
        final long answer;
        final int partAt;
        final boolean isOfABearing;
        final Call call;
        final int[][] ranges;

        Refusal(String sentence, String name, long answer, int partAt, boolean isOfABearing, Call call,
                int[]... ranges) {
            this.sentence = sentence;
            this.name = name;
            this.answer = answer;
            this.partAt = partAt;
            this.isOfABearing = isOfABearing;
            this.call = call;
            this.ranges = ranges;
        }

        int[] goodInputs() {
            int[] inputs = new int[ranges.length];
            for (int i = 0; i < inputs.length; i++) {
                inputs[i] = ranges[i][2];
            }
            return inputs;
        }

        /** Each input in turn just outside on both sides and at the ends of int, and all of them at once. */
        List<int[]> badInputs() {
            List<int[]> all = new ArrayList<>();
            for (int i = 0; i < ranges.length; i++) {
                for (long bad : new long[] {LOW, ranges[i][0] - 1L, ranges[i][1] + 1L, HIGH}) {
                    if (bad >= LOW && bad <= HIGH && (bad < ranges[i][0] || bad > ranges[i][1])) {
                        int[] inputs = goodInputs();
                        inputs[i] = (int) bad;
                        all.add(inputs);
                    }
                }
            }
            for (int bad : new int[] {LOW, HIGH}) {
                int[] inputs = goodInputs();
                Arrays.fill(inputs, bad);
                all.add(inputs);
            }
            return all;
        }

        long due(int[] inputs) {
            return partAt != NO_PART && inputs[partAt] == -1 ? NONE : answer;
        }

        String told(int[] inputs) {
            return sentence + ", " + name + Arrays.toString(inputs);
        }
    }

    private static void add(List<Refusal> all, String sentence, String name, long answer, Call call, int[]... ranges) {
        all.add(new Refusal(sentence, name, answer, NO_PART, true, call, ranges));
    }

    private static void addFree(List<Refusal> all, String sentence, String name, Call call, int[]... ranges) {
        all.add(new Refusal(sentence, name, BAD, NO_PART, false, call, ranges));
    }

    private static void addParts(List<Refusal> all, String sentence, String name, Call call, int[]... ranges) {
        for (int part : new int[] {-1, 0, 1, HIGH}) {
            int[][] withPart = Arrays.copyOf(ranges, ranges.length + 1);
            withPart[ranges.length] = new int[] {-1, HIGH, part};
            all.add(new Refusal(sentence, name, BAD, ranges.length, true, call, withPart));
        }
    }

    private static List<Refusal> all() {
        List<Refusal> all = new ArrayList<>();
        addFree(all, "Promise 2, 'no such place'", "bearing", (x, a) -> x.bearing(a[0], a[1]), PLACE, PLACE);
        add(all, "Promise 3, 'False: none such'", "held, true", 0, (x, a) -> bool(x.held(a[0], a[1], true)), BEARING,
            HELD_AXIS);
        add(all, "Promise 3, 'False: none such'", "held, false", 0, (x, a) -> bool(x.held(a[0], a[1], false)), BEARING,
            HELD_AXIS);
        add(all, "Promise 4, 'False: none such'", "value", 0,
            (x, a) -> bool(x.value(a[0], a[1], a[2], a[3], a[4])), new int[] {0, 7, 1}, BEARING, AXIS,
            new int[] {-1_000_000, 1_000_000, 777}, new int[] {1, 1_000, 7});
        all.add(new Refusal("Promise 5, 'False: another one'", "unit", 0, NO_PART, false,
            (x, a) -> bool(x.unit(a[0])), new int[] {32, 126, '+'}));
        addParts(all, "Promise 7, 'BAD (part - 1: NONE): none such'", "sum",
            (x, a) -> x.sum(a[0], a[1], a[2], a[3]), BEARING, AXIS, new int[] {0, 2, 1});
        add(all, "Promise 8, 'BAD: none such'", "caseOf", BAD, (x, a) -> x.caseOf(a[0], a[1], a[2]), BEARING, AXIS,
            new int[] {0, 1, 1});
        add(all, "Promise 11, 'BAD: none such'", "direction", BAD, (x, a) -> x.direction(a[0], a[1]), BEARING,
            HELD_AXIS);
        add(all, "Promise 12, 'False: none such'", "joint", 0, (x, a) -> bool(x.joint(a[0], a[1], a[2], a[3])),
            BEARING, new int[] {0, 1_000_000, 555}, new int[] {-10_000, 10_000, 44}, WARMTH);
        addParts(all, "Promise 13, 'BAD (part - 1: NONE): none such'", "gap", (x, a) -> x.gap(a[0], a[1], a[2]),
            BEARING, WARMTH);
        addFree(all, "Promise 14, 'BAD: no such warmth'", "day", (x, a) -> x.day(a[0]), WARMTH);
        addParts(all, "Promise 15, 'BAD (part - 1: NONE): none such'", "travel", (x, a) -> x.travel(a[0], a[1]),
            BEARING);
        addFree(all, "Promise 16, 'BAD: none such'", "list", (x, a) -> x.list(a[0], a[1]),
            new int[] {0, 100_000, 0}, new int[] {0, 10_000_000, 0});
        add(all, "Promise 17, 'no such bearing'", "best", BAD, (x, a) -> x.best(a[0]), BEARING);
        add(all, "Promise 18, 'BAD: none such, no bearings'", "jack", BAD, (x, a) -> x.jack(a[0], a[1]),
            new int[] {1, 10_000, 6}, new int[] {1, 10_000, 5});
        add(all, "Promise 19, 'BAD: none such'", "raised", BAD, (x, a) -> x.raised(a[0], a[1]),
            new int[] {0, 9, 4}, BEARING);
        add(all, "Promise 20, 'BAD: none such'", "inspect", BAD, (x, a) -> x.inspect(a[0]), BEARING);
        addFree(all, "Promise 21, 'BAD: another number'", "count", (x, a) -> x.count(a[0]), new int[] {0, 6, 0});
        return all;
    }

    private static void collect(BearingMoves x, String text) {
        for (int i = 0; i < text.length(); i++) {
            x.unit(text.charAt(i));
        }
    }

    /** Something of all that there is, and signs that are collected but not yet read. */
    private static BearingMoves fill(BearingMoves x, int bearings, String pending) {
        for (int b = 0; b < bearings; b++) {
            x.bearing(1_000 * b, 70 * b * b);
        }
        x.held(0, 0, true);
        x.held(0, 1, true);
        x.held(1, 1, true);
        x.value(0, 0, 0, -7, 3);
        x.value(1, 0, 2, 12, 1);
        x.value(0, 1, 0, 25, 2);
        x.value(1, 1, 1, 9, 1);
        x.value(2, 1, 2, 40, 7);
        x.value(2, bearings - 1, 2, -40, 1);
        collect(x, "*a+b;-2/3a+2c");
        x.rules();
        x.joint(0, 300_000, 2_500, 100);
        x.joint(bearings - 1, 200_000, -10, -20);
        x.day(100);
        x.day(-50);
        x.day(220);
        x.list(50, 200);
        x.list(40, 200);
        x.list(30, 5);
        x.jack(100, 40);
        collect(x, pending);
        return x;
    }

    private static BearingMoves much() {
        return fill(new BearingMoves(), BEARINGS, PENDING);
    }

    /** Asks for all that the object tells, then lets it go on: with the signs, days, bearings that come next. */
    private static List<String> life(BearingMoves x, String rest, int... bearings) {
        List<String> told = new ArrayList<>();
        tellCounts(told, x);
        for (int b : bearings) {
            tellPlace(told, x, b);
            tellSums(told, x, b);
        }
        int raisings = 3 * (int) x.count(0);
        for (int step = 0; step <= raisings; step += raisings > 9 ? 6 : 1) {
            for (int b : bearings) {
                told.add("raised(" + step + ", " + b + ") = " + x.raised(step, b));
            }
        }
        collect(x, rest);
        told.add("rules() = " + x.rules());
        told.add("day(-100) = " + x.day(-100));
        told.add("list(0, 0) = " + x.list(0, 0));
        tellCounts(told, x);
        for (int b : bearings) {
            tellSums(told, x, b);
            told.add("travel(" + b + ", 0) = " + x.travel(b, 0));
            told.add("inspect(" + b + ") = " + x.inspect(b));
        }
        told.add("bearing(5, 5) = " + x.bearing(5, 5));
        told.add("raised(0, 0) = " + x.raised(0, 0));
        tellCounts(told, x);
        return told;
    }

    private static void tellCounts(List<String> told, BearingMoves x) {
        for (int what = 0; what <= 6; what++) {
            told.add("count(" + what + ") = " + x.count(what));
        }
        told.add("locked() = " + x.locked());
        told.add("rank(true) = " + x.rank(true));
        told.add("rank(false) = " + x.rank(false));
    }

    private static void tellPlace(List<String> told, BearingMoves x, int b) {
        told.add("direction(" + b + ", 0) = " + x.direction(b, 0));
        told.add("direction(" + b + ", 1) = " + x.direction(b, 1));
        for (int part = -1; part <= 1; part++) {
            told.add("gap(" + b + ", 0, " + part + ") = " + x.gap(b, 0, part));
            told.add("gap(" + b + ", 900, " + part + ") = " + x.gap(b, 900, part));
            told.add("travel(" + b + ", " + part + ") = " + x.travel(b, part));
        }
        told.add("inspect(" + b + ") = " + x.inspect(b));
    }

    private static void tellSums(List<String> told, BearingMoves x, int b) {
        for (int axis = 0; axis < 3; axis++) {
            for (int which = 0; which < 3; which++) {
                for (int part = -1; part <= 1; part++) {
                    String call = "sum(" + b + ", " + axis + ", " + which + ", " + part + ")";
                    told.add(call + " = " + x.sum(b, axis, which, part));
                }
            }
            told.add("caseOf(" + b + ", " + axis + ", 0) = " + x.caseOf(b, axis, 0));
            told.add("caseOf(" + b + ", " + axis + ", 1) = " + x.caseOf(b, axis, 1));
        }
        told.add("best(" + b + ") = " + x.best(b));
    }

    private static void onMuch(Refusal refusal) {
        List<String> want = life(much(), "b", 0, 1, 2);
        for (int[] inputs : refusal.badInputs()) {
            BearingMoves x = much();
            due(refusal.told(inputs), refusal.call.on(x, inputs), refusal.due(inputs));
            dueLife(refusal.told(inputs), life(x, "b", 0, 1, 2), want);
        }
    }

    /** Without bearings a call of a bearing is refused with the inputs, too, that are else taken. */
    private static void onNothing(Refusal refusal) {
        List<String> want = life(much(), "b", 0, 1, 2);
        List<int[]> bad = refusal.badInputs();
        if (refusal.isOfABearing) {
            bad.add(refusal.goodInputs());
        }
        for (int[] inputs : bad) {
            BearingMoves x = new BearingMoves();
            due(refusal.told(inputs) + " on a new object", refusal.call.on(x, inputs), refusal.due(inputs));
            for (int what = 0; what <= 6; what++) {
                due(refusal.told(inputs) + " on a new object: then count(" + what + ")", x.count(what), 0);
            }
            fill(x, BEARINGS, PENDING);
            dueLife(refusal.told(inputs) + " on a new object", life(x, "b", 0, 1, 2), want);
        }
    }

    private static void wrongRules() {
        String[] texts = {"", "   ", "x", "+", "+a;", "-9a;*8b+0c", "+a+a+a+a+a+a+a", "+a;+a;+a;+a;+a;+a;+a;+a;+a",
            "*9a*9b*9c;*9a*9b*9c;+1000a", "+9/8a+9/8a+9/8a;-999a+999", "+a+b+c !"};
        String sentence = "Promise 6, 'What was collected .. is gone', 'what is there of rules stays'";
        List<String> want = life(fill(new BearingMoves(), BEARINGS, ""), "*2c", 0, 1, 2);
        for (String text : texts) {
            BearingMoves x = fill(new BearingMoves(), BEARINGS, text);
            due(sentence + ", '" + text + "' is refused", bool(x.rules() < 0), 1);
            dueLife(sentence + ", '" + text + "'", life(x, "*2c", 0, 1, 2), want);
        }
    }

    private static void noRoomForBearings() {
        List<String> want = life(fill(new BearingMoves(), 10, PENDING), "b", 0, 4, 9);
        BearingMoves x = fill(new BearingMoves(), 10, PENDING);
        due("Promise 2, 'BAD: there are 10', bearing()", x.bearing(0, 0), BAD);
        due("Promise 2, 'BAD: there are 10', bearing()", x.bearing(HIGH, LOW), BAD);
        dueLife("Promise 2, 'BAD: there are 10'", life(x, "b", 0, 4, 9), want);
    }

    private static void noRoomForSigns() {
        String pending = "+2/3a;*b" + " ".repeat(192);
        List<String> want = life(fill(new BearingMoves(), 3, pending), "", 1);
        BearingMoves x = fill(new BearingMoves(), 3, pending);
        due("Promise 5, 'no room', unit()", bool(x.unit('!')), 0);
        due("Promise 5, 'no room', unit()", bool(x.unit(LOW)), 0);
        dueLife("Promise 5, 'no room'", life(x, "", 1), want);
    }

    private static void noRoomInTheList() {
        BearingMoves without = much();
        BearingMoves x = much();
        for (int i = 3; i < 12; i++) {
            without.list(40 + i, 200);
            x.list(40 + i, 200);
        }
        due("Promise 16, 'there are 12', list()", x.list(40, 1), BAD);
        due("Promise 16, 'there are 12', list()", x.list(LOW, HIGH), BAD);
        dueLife("Promise 16, 'there are 12'", life(x, "b", 0, 1, 2), life(without, "b", 0, 1, 2));
    }

    private static void noRoomForDays() {
        String sentence = "Promise 14, 'there are 400'";
        BearingMoves x = new BearingMoves();
        x.bearing(0, 0);
        x.bearing(1, 1);
        x.joint(1, 1_000_000, 0, 0);
        for (int i = 0; i < 400; i++) {
            x.day(i % 2 * 10);
        }
        due(sentence + ", day()", x.day(900), BAD);
        due(sentence + ", day()", x.day(901), BAD);
        due(sentence + ", then count(3)", x.count(3), 400);
        due(sentence + ", then travel(1, 0)", x.travel(1, 0), 399 * 12);
        due(sentence + ", then travel(1, 1)", x.travel(1, 1), 1);
        due(sentence + ", then travel(0, 0)", x.travel(0, 0), 0);
        due(sentence + ", then inspect(0)", x.inspect(0), 1);
        due(sentence + ", then gap(1, 900, 0)", x.gap(1, 900, 0), 1_080);
        refusals++;
    }

    /** A jack() that is refused is none: neither behind new bearings nor behind another jack(). */
    private static void noJackSinceBearingsCame() {
        String sentence = "Promise 19, 'no jack() since bearings came'";
        int[][] none = {{0, 1}, {1, 0}, {10_001, 1}, {1, 10_001}, {LOW, LOW}, {HIGH, HIGH}};
        for (int[] inputs : none) {
            BearingMoves x = new BearingMoves();
            x.bearing(0, 0);
            x.jack(inputs[0], inputs[1]);
            due(sentence + ", only a refused jack()", x.raised(0, 0), BAD);
            x.jack(9, 4);
            x.jack(inputs[0], inputs[1]);
            due(sentence + ", a refused jack() behind a good one", x.raised(2, 0), 8);
            due(sentence + ", a refused jack() behind a good one", x.raised(3, 0), 9);
            x.bearing(100_001, 0);
            due(sentence + ", a refused bearing()", x.raised(3, 0), 9);
            x.bearing(1, 1);
            x.jack(inputs[0], inputs[1]);
            due(sentence + ", a refused jack() behind a bearing", x.raised(0, 0), BAD);
            due(sentence + ", a refused jack() behind a bearing", x.raised(0, 1), BAD);
            refusals++;
        }
    }

    private static void manyRefusalsInARow(List<Refusal> all) {
        List<String> want = life(much(), "b", 1);
        BearingMoves x = much();
        int calls = 0;
        for (Refusal refusal : all) {
            List<int[]> bad = refusal.badInputs();
            for (int i = 0; i < bad.size() && calls < 200; i += 2) {
                due(refusal.told(bad.get(i)), refusal.call.on(x, bad.get(i)), refusal.due(bad.get(i)));
                calls++;
            }
        }
        dueLife("many refusals in a row", life(x, "b", 1), want);
    }
}
