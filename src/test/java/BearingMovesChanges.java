import java.util.Arrays;
import java.util.LinkedHashMap;
import java.util.List;
import java.util.Map;
import java.util.Random;
import java.util.function.Consumer;

/**
 * What each call changes, and that it changes nothing else. An object that has something of all is asked for all that
 * it tells; behind a call the answers that the call's promise names are the ones told here, all others stay.
 */
public final class BearingMovesChanges {
    private static final int BAD = -1;
    private static final int LOW = Integer.MIN_VALUE, HIGH = Integer.MAX_VALUE;
    private static final int BEARINGS = 3, RAISINGS = 9;
    private static final String NOTHING_ELSE =
        "Not promised, 'Nothing is promised beyond the answers and state changes described above'";

    private static int wrong = 0;
    private static int changes = 0;

    public static void main(String[] args) {
        bearing();
        held();
        value();
        unit();
        rules();
        joint();
        day();
        list();
        jack();
        asking();
        twoObjects();
        laterCalls();
        System.out.println(wrong == 0 ? changes + " calls change what they say" : wrong + " answers are not as due");
        if (wrong != 0) {
            System.exit(1);
        }
    }

    private static void due(String what, long got, long want) {
        if (got != want) {
            wrong++;
            System.out.println(what + " answered " + got + ", due is " + want);
        }
    }

    private static void dueTold(String what, Map<String, Long> got, Map<String, Long> want) {
        for (Map.Entry<String, Long> answer : want.entrySet()) {
            due(what + ", then " + answer.getKey(), got.get(answer.getKey()), answer.getValue());
        }
    }

    /** Behind the call all answers are as before, but for these, each told as a call, ' = ' and its answer. */
    private static void dueChange(String promise, Consumer<BearingMoves> call, String... changed) {
        changes++;
        Map<String, Long> want = told(much());
        for (String one : changed) {
            String[] parts = one.split(" = ");
            long before = want.put(parts[0], Long.parseLong(parts[1]));
            due(promise + ": " + one + " is a change", before == Long.parseLong(parts[1]) ? 1 : 0, 0);
        }
        BearingMoves x = much();
        call.accept(x);
        dueTold(promise + " (" + NOTHING_ELSE + ")", told(x), want);
    }

    private static void collect(BearingMoves x, String text) {
        for (int i = 0; i < text.length(); i++) {
            x.unit(text.charAt(i));
        }
    }

    private static List<Consumer<BearingMoves>> stepsOfMuch() {
        return List.of(x -> x.bearing(0, 0), x -> x.bearing(1_000, 0), x -> x.bearing(2_000, 500),
            x -> x.held(0, 0, true), x -> x.held(0, 1, true), x -> x.held(1, 1, true),
            x -> x.value(0, 0, 0, -7, 3), x -> x.value(1, 0, 2, 12, 1), x -> x.value(0, 1, 0, 25, 2),
            x -> x.value(1, 1, 1, 9, 1), x -> x.value(2, 1, 2, 40, 7), x -> x.value(2, 2, 2, -40, 1),
            x -> collect(x, "*a+b;-2/3a+2c"), x -> x.rules(),
            x -> x.joint(0, 300_000, 2_500, 100), x -> x.joint(2, 200_000, -10, -20),
            x -> x.day(100), x -> x.day(-50), x -> x.day(220),
            x -> x.list(50, 200), x -> x.list(8, 200), x -> x.list(30, 12),
            x -> x.jack(100, 40), x -> collect(x, "+2/3a ;*"));
    }

    private static List<Consumer<BearingMoves>> stepsOfAnother() {
        return List.of(x -> x.bearing(7, -9), x -> x.bearing(-77, 99), x -> x.bearing(777, 999),
            x -> x.held(2, 0, true), x -> x.held(2, 1, true), x -> x.held(1, 0, true),
            x -> x.value(3, 0, 0, 70, 9), x -> x.value(1, 0, 2, -12, 7), x -> x.value(3, 1, 0, 1, 1_000),
            x -> x.value(1, 1, 1, 99, 2), x -> x.value(2, 1, 2, 4, 9), x -> x.value(2, 2, 2, 4_000, 3),
            x -> collect(x, "-d*b;*c;+d-2/3b"), x -> x.rules(),
            x -> x.joint(1, 5_000, 9_000, -100), x -> x.joint(2, 2, 10_000, 20),
            x -> x.day(900), x -> x.day(0), x -> x.day(-600),
            x -> x.list(10, 2_000), x -> x.list(80, 2), x -> x.list(90, 1),
            x -> x.jack(9, 4), x -> collect(x, "!"));
    }

    private static BearingMoves much() {
        BearingMoves x = new BearingMoves();
        stepsOfMuch().forEach(step -> step.accept(x));
        return x;
    }

    private static Map<String, Long> told(BearingMoves x) {
        Map<String, Long> told = new LinkedHashMap<>();
        for (int what = 0; what <= 6; what++) {
            told.put("count(" + what + ")", (long) x.count(what));
        }
        told.put("locked()", x.locked() ? 1L : 0L);
        told.put("rank(true)", (long) x.rank(true));
        told.put("rank(false)", (long) x.rank(false));
        for (int b = 0; b < BEARINGS; b++) {
            tellPlace(told, x, b);
            tellSums(told, x, b);
        }
        for (int step = 0; step <= RAISINGS; step++) {
            for (int b = 0; b < BEARINGS; b++) {
                told.put("raised(" + step + ", " + b + ")", (long) x.raised(step, b));
            }
        }
        return told;
    }

    private static void tellPlace(Map<String, Long> told, BearingMoves x, int b) {
        told.put("direction(" + b + ", 0)", (long) x.direction(b, 0));
        told.put("direction(" + b + ", 1)", (long) x.direction(b, 1));
        for (int part = -1; part <= 1; part++) {
            told.put("gap(" + b + ", 0, " + part + ")", x.gap(b, 0, part));
            told.put("gap(" + b + ", 900, " + part + ")", x.gap(b, 900, part));
            told.put("travel(" + b + ", " + part + ")", x.travel(b, part));
        }
        told.put("inspect(" + b + ")", (long) x.inspect(b));
        told.put("best(" + b + ")", (long) x.best(b));
    }

    private static void tellSums(Map<String, Long> told, BearingMoves x, int b) {
        for (int axis = 0; axis < 3; axis++) {
            for (int which = 0; which < 3; which++) {
                for (int part = -1; part <= 1; part++) {
                    told.put("sum(" + b + ", " + axis + ", " + which + ", " + part + ")", x.sum(b, axis, which, part));
                }
            }
            told.put("caseOf(" + b + ", " + axis + ", 0)", (long) x.caseOf(b, axis, 0));
            told.put("caseOf(" + b + ", " + axis + ", 1)", (long) x.caseOf(b, axis, 1));
        }
    }

    private static void bearing() {
        String[] changed = new String[(RAISINGS + 1) * BEARINGS + 1];
        changed[0] = "count(0) = 4";
        for (int i = 1; i < changed.length; i++) {
            changed[i] = "raised(" + (i - 1) / BEARINGS + ", " + (i - 1) % BEARINGS + ") = " + BAD;
        }
        dueChange("Promise 2, bearing(5, 5)", x -> x.bearing(5, 5), changed);
        BearingMoves x = much();
        x.bearing(2_000, 2_000);
        Map<String, Long> own = new LinkedHashMap<>();
        tellPlace(own, x, 3);
        tellSums(own, x, 3);
        for (Map.Entry<String, Long> answer : own.entrySet()) {
            due("Promise 2, a new bearing has nothing of another one, " + answer.getKey(), answer.getValue(),
                dueOfNothing(answer.getKey()));
        }
    }

    /** All fractions and cases are 0; it lies aslant of the fixed one, is held by the least load, and comes last. */
    private static long dueOfNothing(String call) {
        if (call.startsWith("direction")) {
            return 1;
        }
        if (call.startsWith("best")) {
            return 2;
        }
        if (call.startsWith("inspect")) {
            return 3;
        }
        boolean isLowerPart = !call.startsWith("caseOf") && call.endsWith(", 1)");
        return isLowerPart ? 1 : 0;
    }

    private static void held() {
        dueChange("Promise 3, held(1, 0, true)", x -> x.held(1, 0, true), "count(5) = 4", "locked() = 1",
            "rank(true) = 4");
        dueChange("Promise 3, held(2, 0, true)", x -> x.held(2, 0, true), "count(5) = 4", "locked() = 1",
            "rank(true) = 4");
        dueChange("Promise 3, held(1, 1, false)", x -> x.held(1, 1, false), "count(5) = 2", "rank(true) = 2",
            "rank(false) = 2");
        dueChange("Promise 3, held(0, 0, false)", x -> x.held(0, 0, false), "count(5) = 2", "rank(true) = 2",
            "rank(false) = 2", "direction(0, 0) = -1", "direction(0, 1) = -1", "direction(1, 0) = -1",
            "direction(1, 1) = -1", "direction(2, 0) = -1", "direction(2, 1) = -1");
        dueChange("Promise 3, held(0, 0, true), which is held", x -> x.held(0, 0, true));
        dueChange("Promise 3, held(2, 1, false), which is not held", x -> x.held(2, 1, false));
        dueChange("Promise 3, held(2, 1, ..), and back", x -> {
            x.held(2, 1, true);
            x.held(2, 1, false);
        });
    }

    private static void value() {
        dueChange("Promise 4, value(0, 1, 0, 75, 2)", x -> x.value(0, 1, 0, 75, 2), "sum(1, 0, 0, 0) = 75",
            "sum(1, 0, 1, 0) = 75", "sum(1, 0, 2, 0) = 75", "best(1) = 0");
        dueChange("Promise 4, value(1, 1, 2, 5, 1)", x -> x.value(1, 1, 2, 5, 1), "sum(1, 2, 0, -1) = 1",
            "sum(1, 2, 0, 0) = 5");
        dueChange("Promise 4, value(2, 2, 1, 5, 1)", x -> x.value(2, 2, 1, 5, 1), "sum(2, 1, 1, -1) = 1",
            "sum(2, 1, 1, 0) = 10", "sum(2, 1, 2, -1) = 1", "sum(2, 1, 2, 0) = 10", "caseOf(2, 1, 1) = 1");
        dueChange("Promise 4, value(7, 2, 1, 5, 1), of no rule", x -> x.value(7, 2, 1, 5, 1));
        dueChange("Promise 4, value(0, 0, 0, -14, 6), the same one", x -> x.value(0, 0, 0, -14, 6));
    }

    private static void unit() {
        dueChange("Promise 5, unit('b')", x -> x.unit('b'), "count(6) = 9");
        dueChange("Promise 5, unit('!')", x -> x.unit('!'), "count(6) = 9");
    }

    private static void rules() {
        dueChange("Promise 6, rules() of '+2/3a ;*'", x -> x.rules(), "count(6) = 0");
        dueChange("Promise 6, rules() of '+2/3a ;*b'", x -> {
            x.unit('b');
            x.rules();
        }, "count(2) = 2", "count(6) = 0",
            "sum(0, 0, 0, 0) = 14", "sum(0, 0, 0, 1) = 9", "sum(0, 0, 1, -1) = 0", "sum(0, 0, 1, 0) = 0",
            "sum(0, 0, 1, 1) = 1", "sum(0, 0, 2, -1) = -1", "sum(0, 0, 2, 0) = 14", "sum(0, 0, 2, 1) = 9",
            "caseOf(0, 0, 1) = 1", "sum(0, 2, 0, -1) = -1", "sum(0, 2, 0, 0) = 12", "caseOf(0, 2, 1) = 1",
            "sum(1, 0, 0, -1) = 0", "sum(1, 0, 0, 0) = 0", "sum(1, 0, 0, 1) = 1", "sum(1, 0, 1, 1) = 3",
            "sum(1, 0, 2, 1) = 3", "caseOf(1, 0, 0) = 1", "sum(1, 1, 0, -1) = -1", "sum(1, 1, 0, 0) = 9",
            "caseOf(1, 1, 1) = 1", "sum(1, 2, 1, -1) = 0", "sum(1, 2, 1, 0) = 0", "sum(1, 2, 1, 1) = 1",
            "sum(1, 2, 2, -1) = 0", "sum(1, 2, 2, 0) = 0", "sum(1, 2, 2, 1) = 1", "caseOf(1, 2, 1) = 0",
            "sum(2, 2, 0, -1) = 0", "sum(2, 2, 0, 0) = 0", "sum(2, 2, 2, -1) = 0", "sum(2, 2, 2, 0) = 0",
            "caseOf(2, 2, 0) = 0");
    }

    private static void joint() {
        dueChange("Promise 12, joint(0, 300000, 3000, 0)", x -> x.joint(0, 300_000, 3_000, 0), "gap(0, 0, 0) = 3",
            "gap(0, 0, 1) = 1", "gap(0, 900, 0) = 321", "gap(0, 900, 1) = 1");
        dueChange("Promise 12, joint(1, 250000, 0, 0)", x -> x.joint(1, 250_000, 0, 0), "gap(1, 900, -1) = -1",
            "gap(1, 900, 0) = 270", "travel(1, -1) = 1", "travel(1, 0) = 126", "inspect(1) = 1", "inspect(2) = 2");
    }

    private static void day() {
        dueChange("Promise 14, day(220), as the one before", x -> x.day(220), "count(3) = 4");
        dueChange("Promise 14, day(0)", x -> x.day(0), "count(3) = 4", "travel(0, 0) = 1152", "travel(2, 0) = 768");
    }

    private static void list() {
        dueChange("Promise 16, list(12, 12)", x -> x.list(12, 12), "count(4) = 4", "best(0) = 3", "best(2) = 3");
        dueChange("Promise 16, list(0, 11)", x -> x.list(0, 11), "count(4) = 4", "best(2) = 3");
        dueChange("Promise 16, list(30, 12), which is there", x -> x.list(30, 12), "count(4) = 4");
    }

    private static void jack() {
        dueChange("Promise 18, jack(100, 50)", x -> x.jack(100, 50), "raised(1, 0) = 50", "raised(2, 0) = 50",
            "raised(2, 1) = 50", "raised(3, 0) = 50", "raised(3, 1) = 50", "raised(3, 2) = 50", "raised(4, 0) = 100",
            "raised(4, 1) = 50", "raised(4, 2) = 50", "raised(5, 0) = 100", "raised(5, 1) = 100", "raised(5, 2) = 50",
            "raised(6, 0) = 100", "raised(6, 1) = 100", "raised(6, 2) = 100", "raised(7, 0) = -1", "raised(7, 1) = -1",
            "raised(7, 2) = -1", "raised(8, 0) = -1", "raised(8, 1) = -1", "raised(8, 2) = -1", "raised(9, 0) = -1",
            "raised(9, 1) = -1", "raised(9, 2) = -1");
        dueChange("Promise 18, jack(100, 40), as the one before", x -> x.jack(100, 40));
    }

    private static void asking() {
        dueChange("Promise 7, sum()", x -> x.sum(2, 2, 2, 1));
        dueChange("Promise 8, caseOf()", x -> x.caseOf(1, 1, 1));
        dueChange("Promise 9, locked()", x -> x.locked());
        dueChange("Promise 10, rank()", x -> x.rank(true));
        dueChange("Promise 11, direction()", x -> x.direction(2, 1));
        dueChange("Promise 13, gap()", x -> x.gap(0, 900, 1));
        dueChange("Promise 15, travel()", x -> x.travel(0, 1));
        dueChange("Promise 17, best()", x -> x.best(1));
        dueChange("Promise 19, raised()", x -> x.raised(5, 1));
        dueChange("Promise 20, inspect()", x -> x.inspect(0));
        dueChange("Promise 21, count()", x -> x.count(6));
        dueChange("asking for all", x -> told(x));
    }

    /** Two objects that are told and asked in turns answer as each of them alone. */
    private static void twoObjects() {
        BearingMoves alone = new BearingMoves();
        stepsOfAnother().forEach(step -> step.accept(alone));
        Map<String, Long> want = told(alone);
        BearingMoves one = new BearingMoves();
        BearingMoves other = new BearingMoves();
        for (int i = 0; i < stepsOfMuch().size(); i++) {
            stepsOfMuch().get(i).accept(one);
            stepsOfAnother().get(i).accept(other);
            one.sum(0, 0, 1, 0);
            other.inspect(0);
        }
        dueTold("Promise 1, one of two objects", told(one), told(much()));
        dueTold("Promise 1, the other of two objects", told(other), want);
        dueTold("Promise 1, one of two objects again", told(one), told(much()));
        changes += 2;
    }

    /** What calls behind the 512th answer is free, but none throws, and each ends: LANGUAGE.md, rule 7. */
    private static void laterCalls() {
        for (int run = 0; run < 20; run++) {
            Random random = new Random(run);
            BearingMoves x = run % 2 == 0 ? much() : new BearingMoves();
            for (int call = 0; call < 20_000; call++) {
                int which = random.nextInt(20);
                int[] a = new int[5];
                for (int i = 0; i < a.length; i++) {
                    a[i] = anyInput(random);
                }
                try {
                    anyCall(x, which, a);
                } catch (RuntimeException thrown) {
                    wrong++;
                    System.out.println("What it is, 'what later calls answer is free', but call " + which + " of "
                        + Arrays.toString(a) + " threw " + thrown);
                }
            }
        }
    }

    private static int anyInput(Random random) {
        int[] ends = {LOW, LOW + 1, HIGH, HIGH - 1, -601, -600, 900, 901, 100_000, -100_000, 1_000_000, 10_000_000};
        int kind = random.nextInt(10);
        return kind == 0 ? random.nextInt() : kind == 1 ? ends[random.nextInt(ends.length)]
            : kind == 2 ? random.nextInt(1_000) : random.nextInt(14) - 2;
    }

    private static long anyCall(BearingMoves x, int which, int[] a) {
        switch (which) {
            case 0: return x.bearing(a[0], a[1]);
            case 1: return x.held(a[0], a[1], a[2] > 3) ? 1 : 0;
            case 2: return x.value(a[0], a[1], a[2], a[3], a[4]) ? 1 : 0;
            case 3: return x.unit("+-*/;a1 b0".charAt(Math.floorMod(a[0], 10))) ? 1 : 0;
            case 4: return x.unit(a[0]) ? 1 : 0;
            case 5: return x.rules();
            case 6: return x.sum(a[0], a[1], a[2], a[3]);
            case 7: return x.caseOf(a[0], a[1], a[2]);
            case 8: return x.locked() ? 1 : 0;
            case 9: return x.rank(a[0] > 3);
            case 10: return x.direction(a[0], a[1]);
            case 11: return x.joint(a[0], a[1], a[2], a[3]) ? 1 : 0;
            case 12: return x.gap(a[0], a[1], a[2]);
            case 13: return x.day(a[0]);
            case 14: return x.travel(a[0], a[1]);
            case 15: return x.list(a[0], a[1]);
            case 16: return x.best(a[0]);
            case 17: return x.jack(a[0], a[1]);
            case 18: return x.raised(a[0], a[1]) + x.inspect(a[2]);
            default: return x.count(a[0]);
        }
    }
}
