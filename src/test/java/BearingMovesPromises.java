import java.math.BigInteger;

/** Each promise of the document, one method a promise: ordinary inputs, the edges it names, and wrong inputs. */
public final class BearingMovesPromises {
    private static final int BAD = -1, NONE = -2;
    private static final int LOW = Integer.MIN_VALUE, HIGH = Integer.MAX_VALUE;

    private static int wrong = 0;
    private static int promise = 0;

    public static void main(String[] args) {
        newObject();
        bearing();
        held();
        value();
        unit();
        rules();
        wrongRules();
        rulesTooLong();
        sum();
        sumParts();
        sumWrong();
        caseOf();
        locked();
        rank();
        direction();
        joint();
        gap();
        day();
        travel();
        list();
        best();
        jack();
        raised();
        inspect();
        count();
        System.out.println(wrong == 0 ? "all promises hold" : wrong + " answers are not as due");
        if (wrong != 0) {
            System.exit(1);
        }
    }

    private static void due(String what, long got, long want) {
        if (got != want) {
            wrong++;
            System.out.println("promise " + promise + ": " + what + " answered " + got + ", due is " + want);
        }
    }

    private static void due(String what, boolean got, boolean want) {
        due(what, got ? 1 : 0, want ? 1 : 0);
    }

    private static BearingMoves withBearings(int... places) {
        BearingMoves x = new BearingMoves();
        for (int i = 0; i + 1 < places.length; i += 2) {
            x.bearing(places[i], places[i + 1]);
        }
        return x;
    }

    private static BearingMoves collected(BearingMoves x, String text) {
        for (int i = 0; i < text.length(); i++) {
            x.unit(text.charAt(i));
        }
        return x;
    }

    private static int read(BearingMoves x, String text) {
        return collected(x, text).rules();
    }

    private static void dueSum(BearingMoves x, int axis, int which, long above, long below) {
        String what = "sum(0, " + axis + ", " + which + ", ";
        due(what + "-1)", x.sum(0, axis, which, -1), Long.signum(above));
        due(what + "0)", x.sum(0, axis, which, 0), Math.abs(above));
        due(what + "1)", x.sum(0, axis, which, 1), below);
        due(what + "2)", x.sum(0, axis, which, 2), 0);
        due(what + "3)", x.sum(0, axis, which, 3), 0);
    }

    private static void newObject() {
        promise = 1;
        BearingMoves x = new BearingMoves();
        for (int what = 0; what <= 6; what++) {
            due("count(" + what + ")", x.count(what), 0);
        }
        due("BAD", BearingMoves.BAD, BAD);
        due("NONE", BearingMoves.NONE, NONE);
        due("two objects share nothing", withBearings(1, 1).count(0) + new BearingMoves().count(0), 1);
    }

    private static void bearing() {
        promise = 2;
        BearingMoves x = new BearingMoves();
        int[][] outside = {{100_001, 0}, {-100_001, 0}, {0, 100_001}, {0, -100_001}, {LOW, LOW}, {HIGH, HIGH}};
        for (int[] place : outside) {
            due("bearing(" + place[0] + ", " + place[1] + ")", x.bearing(place[0], place[1]), BAD);
        }
        due("bearing at the edge", x.bearing(100_000, -100_000), 0);
        due("bearing at the other edge", x.bearing(-100_000, 100_000), 1);
        for (int i = 2; i < 10; i++) {
            due("bearing at a place that is taken", x.bearing(3, 4), i);
        }
        due("bearing 10", x.bearing(3, 4), BAD);
        due("count(0)", x.count(0), 10);
    }

    private static void held() {
        promise = 3;
        BearingMoves x = withBearings(0, 0, 10, 0);
        due("held(-1, 0, true)", x.held(-1, 0, true), false);
        due("held(2, 0, true)", x.held(2, 0, true), false);
        due("held(10, 0, true)", x.held(10, 0, true), false);
        due("held(HIGH, 0, true)", x.held(HIGH, 0, true), false);
        due("held(0, -1, true)", x.held(0, -1, true), false);
        due("held(0, 2, true)", x.held(0, 2, true), false);
        due("count(5)", x.count(5), 0);
        due("held(0, 0, true)", x.held(0, 0, true), true);
        due("held(0, 0, true) again", x.held(0, 0, true), true);
        due("held(1, 1, true)", x.held(1, 1, true), true);
        due("count(5)", x.count(5), 2);
        due("held(0, 1, false), not held", x.held(0, 1, false), true);
        due("held(0, 0, false)", x.held(0, 0, false), true);
        due("count(5)", x.count(5), 1);
        due("held(2, 1, false)", x.held(2, 1, false), false);
    }

    private static void value() {
        promise = 4;
        BearingMoves x = withBearings(0, 0);
        int[][] none = {{-1, 0, 0, 1, 1}, {8, 0, 0, 1, 1}, {0, -1, 0, 1, 1}, {0, 1, 0, 1, 1}, {0, 10, 0, 1, 1},
            {0, 0, -1, 1, 1}, {0, 0, 3, 1, 1}, {0, 0, 0, 1_000_001, 1}, {0, 0, 0, -1_000_001, 1}, {0, 0, 0, 1, 0},
            {0, 0, 0, 1, -1}, {0, 0, 0, 1, 1_001}, {HIGH, HIGH, HIGH, HIGH, HIGH}, {LOW, LOW, LOW, LOW, LOW}};
        for (int[] v : none) {
            due("value" + java.util.Arrays.toString(v), x.value(v[0], v[1], v[2], v[3], v[4]), false);
        }
        read(x, "+a+b+c+d+e+f;+g+h");
        dueSum(x, 0, 1, 0, 1);
        due("value(7, 0, 2, 1000000, 1000)", x.value(7, 0, 2, 1_000_000, 1_000), true);
        dueSum(x, 2, 1, 1_000, 1);
        due("value(7, 0, 2, -1000000, 999)", x.value(7, 0, 2, -1_000_000, 999), true);
        dueSum(x, 2, 0, -1_000_000, 999);
        dueSum(x, 2, 1, 0, 1);
        dueSum(x, 0, 0, 0, 1);
        due("value(7, 0, 2, 0, 3)", x.value(7, 0, 2, 0, 3), true);
        dueSum(x, 2, 0, 0, 1);
        x.bearing(1, 1);
        due("a new bearing has no values", x.sum(1, 2, 1, -1), 0);
    }

    private static void unit() {
        promise = 5;
        BearingMoves x = new BearingMoves();
        for (int u : new int[] {31, 127, 0, -1, 10, 256 + 43, LOW, HIGH}) {
            due("unit(" + u + ")", x.unit(u), false);
        }
        due("count(6)", x.count(6), 0);
        due("unit(32)", x.unit(32), true);
        due("unit(126)", x.unit(126), true);
        for (int i = 2; i < 200; i++) {
            due("unit " + i, x.unit('+'), true);
        }
        due("unit 200", x.unit('+'), false);
        due("count(6)", x.count(6), 200);
        due("rules()", x.rules(), -2);
        due("unit behind rules()", x.unit('+'), true);
        due("count(6)", x.count(6), 1);
    }

    private static void rules() {
        promise = 6;
        dueRead("+a", 1, 1);
        dueRead("-h", 1, 1);
        dueRead("*999/999d", 1, 1);
        dueRead("+1a-10b*100c", 1, 3);
        dueRead("+a;-b;*c", 3, 3);
        dueRead(" +  1  /  2  a  -  b  ;  *  c ", 2, 3);
        dueRead("+a+b+c+d+e+f", 1, 6);
        dueRead("+a;+a;+a;+a;+a;+a;+a;+a", 8, 8);
        dueRead("+a+a+a+a+a+a;+a+a+a+a+a+a;+a+a+a+a+a+a;+a+a+a+a+a+a;"
            + "+a+a+a+a+a+a;+a+a+a+a+a+a;+a+a+a+a+a+a;+a+a+a+a+a+a ", 8, 48);

        BearingMoves x = withBearings(0, 0);
        x.value(0, 0, 0, 1, 1);
        due("rules of one text", read(x, "+7a"), 1);
        due("a wrong text", read(x, "+2a;+3"), -7);
        due("count(6): the wrong text is gone", x.count(6), 0);
        due("count(1): the rules stay", x.count(1), 1);
        dueSum(x, 0, 1, 7, 1);
        due("the next text takes their place", read(x, "+2a;+3a"), 2);
        dueSum(x, 0, 1, 3, 1);
        due("and a shorter one again", read(x, "+a"), 1);
        dueSum(x, 0, 1, 1, 1);
        due("count(2)", x.count(2), 1);
    }

    private static void dueRead(String text, int rules, int terms) {
        BearingMoves x = new BearingMoves();
        due("rules of '" + text + "'", read(x, text), rules);
        due("count(1) of '" + text + "'", x.count(1), rules);
        due("count(2) of '" + text + "'", x.count(2), terms);
        due("count(6) of '" + text + "'", x.count(6), 0);
    }

    private static void dueWrong(String text, int sign) {
        BearingMoves x = new BearingMoves();
        due("rules of '" + text + "'", read(x, text), -1 - sign);
        due("count(1) of '" + text + "'", x.count(1), 0);
        due("count(2) of '" + text + "'", x.count(2), 0);
        due("count(6) of '" + text + "'", x.count(6), 0);
    }

    private static void wrongRules() {
        promise = 6;
        dueWrong("", 0);
        dueWrong("   ", 3);
        dueWrong("+", 1);
        dueWrong("+ ", 2);
        dueWrong("+12", 3);
        dueWrong("+12 /", 5);
        dueWrong("+12/ ", 5);
        dueWrong("+12/34", 6);
        dueWrong("+a;", 3);
        dueWrong("+a; ", 4);
        dueWrong(";+a", 0);
        dueWrong("+a;;+a", 3);
        dueWrong("a", 0);
        dueWrong("2a", 0);
        dueWrong("++a", 1);
        dueWrong("+i", 1);
        dueWrong("+A", 1);
        dueWrong("+`", 1);
        dueWrong("+/2a", 1);
        dueWrong("+2/a", 3);
        dueWrong("+2//3a", 3);
        dueWrong("+2/3/4a", 4);
        dueWrong("+a2", 2);
        dueWrong("+a b", 3);
        dueWrong("+a,", 2);
        dueWrong("+~", 1);
        dueWrong("+1 2a", 3);
        dueWrong("+1 /2 3a", 6);
        dueWrong("+ 0a", 2);
        dueWrong("+012a", 1);
        dueWrong("+0", 1);
        dueWrong("+1/0a", 3);
        dueWrong("+1/ 01a", 4);
        dueWrong("+ 1000a", 2);
        dueWrong("+1000", 1);
        dueWrong("+99999999999999999999999999a", 1);
        dueWrong("+999/1000a", 5);
        dueWrong("+1000/0a", 1);
    }

    private static void rulesTooLong() {
        promise = 6;
        dueWrong("+a+a+a+a+a+a+a", 12);
        dueWrong("+a+a+a+a+a+a  -", 14);
        dueWrong("+a+a+a+a+a+a x", 13);
        dueWrong("+b;+a+a+a+a+a+a+a", 15);
        String eight = "+a;+a;+a;+a;+a;+a;+a;+a";
        dueWrong(eight + ";+a", 24);
        dueWrong(eight + " ;  +0a", 27);
        dueWrong(eight + ";", 24);
        dueWrong(eight + "; ", 25);
        dueWrong(eight + ";x", 24);
        dueWrong(eight + "x", 23);
    }

    private static void sum() {
        promise = 7;
        BearingMoves x = withBearings(0, 0);
        for (int which = 0; which <= 2; which++) {
            dueSum(x, 0, which, 0, 1);
        }
        x.value(0, 0, 0, 25, 2);
        x.value(1, 0, 0, -7, 3);
        x.value(2, 0, 0, 4, 1);
        read(x, "+a*b; -2/3a +b *5c ;*a");
        dueSum(x, 0, 0, -92, 3);
        dueSum(x, 0, 1, 89, 6);
        dueSum(x, 0, 2, -92, 3);
        dueSum(x, 1, 0, 0, 1);

        read(x, "+a");
        dueSum(x, 0, 0, 25, 2);
        dueSum(x, 0, 1, 25, 2);
        read(x, "-a");
        dueSum(x, 0, 1, -25, 2);
        dueSum(x, 0, 2, -25, 2);
        read(x, "*a");
        dueSum(x, 0, 0, -25, 2);
        dueSum(x, 0, 2, 25, 2);
        read(x, "*b");
        dueSum(x, 0, 1, 7, 3);
        dueSum(x, 0, 0, -7, 3);
        read(x, "+a-a");
        dueSum(x, 0, 0, 0, 1);
        read(x, "+6/5b");
        dueSum(x, 0, 0, -14, 5);
        read(x, "*a*a+a");
        dueSum(x, 0, 0, -25, 2);
        dueSum(x, 0, 1, 75, 2);
        read(x, "+1/6c+1/3c");
        dueSum(x, 0, 1, 2, 1);
    }

    /** Over twelve different primes, so that nothing can be shortened. */
    private static void sumParts() {
        promise = 7;
        dueGreatSum(1, 1, 1, 1, 1, 1);
        dueGreatSum(-1, -1, -1, -1, -1, -1);
        dueGreatSum(1, -1, 1, -1, 1, -1);
        dueGreatSum(-1, 1, -1, 1, -1, 1);
        dueGreatSum(1, 1, -1, -1, 1, -1);
        dueGreatSum(-1, 1, 1, 1, -1, -1);
    }

    private static void dueGreatSum(int... signs) {
        int[] below = {997, 991, 983, 977, 971, 967};
        int[] under = {953, 947, 941, 937, 929, 919};
        BearingMoves x = withBearings(0, 0);
        BigInteger lower = BigInteger.ONE;
        for (int i = 0; i < 6; i++) {
            x.value(i, 0, 2, signs[i] * 1_000_000, below[i]);
            lower = lower.multiply(BigInteger.valueOf(below[i] * under[i]));
        }
        read(x, "+999/953a+999/947b+999/941c+999/937d+999/929e+999/919f");
        BigInteger upper = BigInteger.ZERO;
        for (int i = 0; i < 6; i++) {
            BigInteger others = lower.divide(BigInteger.valueOf(below[i] * under[i]));
            upper = upper.add(others.multiply(BigInteger.valueOf(signs[i])));
        }
        upper = upper.multiply(BigInteger.valueOf(999_000_000));
        due("sum(0, 2, 0, -1)", x.sum(0, 2, 0, -1), upper.signum());
        upper = upper.abs();
        BigInteger eighteen = BigInteger.TEN.pow(18);
        for (int k = 0; k < 8; k++) {
            due("upper part " + k, x.sum(0, 2, 0, 2 * k), upper.mod(eighteen).longValue());
            due("lower part " + k, x.sum(0, 2, 0, 2 * k + 1), lower.mod(eighteen).longValue());
            upper = upper.divide(eighteen);
            lower = lower.divide(eighteen);
        }
        due("the last part", x.sum(0, 2, 0, HIGH), 0);
        due("the one before", x.sum(0, 2, 0, HIGH - 1), 0);
    }

    private static void sumWrong() {
        promise = 7;
        BearingMoves x = withBearings(0, 0);
        int[][] none = {{-1, 0, 0}, {1, 0, 0}, {10, 0, 0}, {HIGH, 0, 0}, {0, -1, 0}, {0, 3, 0}, {0, 0, -1},
            {0, 0, 3}, {0, 0, LOW}};
        for (int[] v : none) {
            String what = "sum" + java.util.Arrays.toString(v);
            due(what + " -1", x.sum(v[0], v[1], v[2], -1), NONE);
            due(what + " 0", x.sum(v[0], v[1], v[2], 0), BAD);
            due(what + " 1", x.sum(v[0], v[1], v[2], 1), BAD);
            due(what + " -2", x.sum(v[0], v[1], v[2], -2), BAD);
        }
        due("sum(0, 0, 0, -2)", x.sum(0, 0, 0, -2), BAD);
        due("sum(0, 0, 0, LOW)", x.sum(0, 0, 0, LOW), BAD);
    }

    private static void caseOf() {
        promise = 8;
        BearingMoves x = withBearings(0, 0);
        x.value(0, 0, 0, 1, 1);
        x.value(1, 0, 0, -1, 1);
        due("without rules", x.caseOf(0, 0, 0), BAD);
        due("without rules", x.caseOf(0, 0, 1), BAD);
        read(x, "+a;*b;-2b;*2a;-a");
        due("caseOf(0, 0, 0)", x.caseOf(0, 0, 0), 3);
        due("caseOf(0, 0, 1): the first of two", x.caseOf(0, 0, 1), 2);
        due("caseOf(0, 2, 0): all are 0", x.caseOf(0, 2, 0), 0);
        due("caseOf(0, 2, 1): all are 0", x.caseOf(0, 2, 1), 0);
        read(x, "+a;+2a");
        due("the least is above 0", x.caseOf(0, 0, 0), 0);
        due("the greatest is the last", x.caseOf(0, 0, 1), 1);
        read(x, "+2b;+b");
        due("the greatest is below 0", x.caseOf(0, 0, 1), 1);
        x.value(2, 0, 0, 999_999, 997);
        x.value(3, 0, 0, 999_999, 991);
        x.value(4, 0, 0, 2_013, 1);
        x.value(5, 0, 0, 2_012, 1);
        read(x, "+c+d;+e");
        due("2012.09 and 2013: the greatest", x.caseOf(0, 0, 1), 1);
        due("2012.09 and 2013: the least", x.caseOf(0, 0, 0), 0);
        read(x, "-f;-c-d");
        due("-2012 and -2012.09: the greatest", x.caseOf(0, 0, 1), 0);
        due("-2012 and -2012.09: the least", x.caseOf(0, 0, 0), 1);
        int[][] none = {{-1, 0, 0}, {1, 0, 0}, {0, -1, 0}, {0, 3, 0}, {0, 0, -1}, {0, 0, 2}, {HIGH, LOW, HIGH}};
        for (int[] v : none) {
            due("caseOf" + java.util.Arrays.toString(v), x.caseOf(v[0], v[1], v[2]), BAD);
        }
    }

    private static BearingMoves withHeld(int[] places, int... bearingsAndAxes) {
        BearingMoves x = withBearings(places);
        for (int i = 0; i + 1 < bearingsAndAxes.length; i += 2) {
            x.held(bearingsAndAxes[i], bearingsAndAxes[i + 1], true);
        }
        return x;
    }

    private static void locked() {
        promise = 9;
        due("no bearings", new BearingMoves().locked(), false);
        due("nothing held", withBearings(0, 0, 5, 5).locked(), false);
        int[] inLine = {0, 0, 30_000, 0, 60_000, 0};
        due("fixed and guided along the line", withHeld(inLine, 0, 0, 0, 1, 1, 1, 2, 1).locked(), false);
        due("fixed twice", withHeld(inLine, 0, 0, 0, 1, 2, 0).locked(), true);
        due("two along the line alone", withHeld(inLine, 0, 0, 2, 0).locked(), true);
        due("two across the line alone", withHeld(inLine, 0, 1, 2, 1).locked(), false);
        int[] square = {0, 0, 10, 0, 10, 10, 0, 10};
        due("two side by side, held along", withHeld(square, 0, 0, 3, 0).locked(), false);
        due("fixed, and one aslant held on one axis", withHeld(square, 0, 0, 0, 1, 2, 0).locked(), false);
        due("fixed, and one aslant held on both", withHeld(square, 0, 0, 0, 1, 2, 0, 2, 1).locked(), true);
        due("fixed twice in one place", withHeld(new int[] {5, 7, 5, 7}, 0, 0, 0, 1, 1, 0, 1, 1).locked(), false);
        BearingMoves x = withHeld(inLine, 0, 0, 2, 0);
        x.held(2, 0, false);
        due("no longer held", x.locked(), false);
    }

    private static void dueRank(String what, BearingMoves x, int growing, int without) {
        due(what + ": rank(true)", x.rank(true), growing);
        due(what + ": rank(false)", x.rank(false), without);
        due(what + ": locked()", x.locked(), growing > without);
    }

    private static void rank() {
        promise = 10;
        dueRank("no bearings", new BearingMoves(), 0, 0);
        dueRank("nothing held", withBearings(1, 2), 0, 0);
        int[] places = {0, 0, 10, 0, 0, 10, 10, 10};
        dueRank("one axis", withHeld(places, 3, 0), 1, 1);
        dueRank("one bearing", withHeld(places, 3, 0, 3, 1), 2, 2);
        dueRank("x, y - y apart", withHeld(places, 0, 0, 2, 0), 2, 2);
        dueRank("x - x apart", withHeld(places, 0, 0, 1, 0), 2, 1);
        dueRank("y - x apart", withHeld(places, 0, 1, 1, 1), 2, 2);
        dueRank("y - y apart", withHeld(places, 0, 1, 2, 1), 2, 1);
        dueRank("all along x", withHeld(places, 0, 0, 1, 0, 2, 0, 3, 0), 3, 2);
        dueRank("all", withHeld(places, 0, 0, 1, 0, 2, 0, 3, 0, 0, 1, 1, 1, 2, 1, 3, 1), 4, 3);
        int[] far = {-100_000, -100_000, 100_000, 100_000, 100_000, 99_999};
        dueRank("far and parallel", withHeld(far, 0, 0, 1, 0, 0, 1), 3, 3);
        dueRank("far and nearly parallel", withHeld(far, 0, 0, 1, 0, 2, 0), 3, 2);
    }

    private static void direction() {
        promise = 11;
        BearingMoves x = withBearings(1, 1, 100_000, -100_000, -100_000, 100_000, 7, -3, 100_000, 40_000);
        due("none held on both", x.direction(0, 0), BAD);
        x.held(0, 0, true);
        x.held(3, 1, true);
        due("none held on both", x.direction(3, 0), BAD);
        x.held(1, 1, true);
        x.held(1, 0, true);
        x.held(2, 0, true);
        x.held(2, 1, true);
        due("direction(2, 0)", x.direction(2, 0), -1);
        due("direction(2, 1)", x.direction(2, 1), 1);
        due("direction(1, 0): itself", x.direction(1, 0), 0);
        due("direction(1, 1): itself", x.direction(1, 1), 0);
        due("direction(3, 0)", x.direction(3, 0), -99_993);
        due("direction(3, 1)", x.direction(3, 1), 99_997);
        due("direction(4, 0): the same x", x.direction(4, 0), 0);
        due("direction(4, 1): the same x", x.direction(4, 1), 1);
        x.held(0, 1, true);
        due("direction(3, 0) from an earlier one", x.direction(3, 0), 3);
        due("direction(3, 1) from an earlier one", x.direction(3, 1), -2);
        due("direction(-1, 0)", x.direction(-1, 0), BAD);
        due("direction(5, 1)", x.direction(5, 1), BAD);
        due("direction(3, -1)", x.direction(3, -1), BAD);
        due("direction(3, 2)", x.direction(3, 2), BAD);
    }

    private static void joint() {
        promise = 12;
        BearingMoves x = withBearings(0, 0);
        int[][] none = {{-1, 1, 1, 1}, {1, 1, 1, 1}, {0, -1, 1, 1}, {0, 1_000_001, 1, 1}, {0, 1, -10_001, 1},
            {0, 1, 10_001, 1}, {0, 1, 1, -601}, {0, 1, 1, 901}, {HIGH, HIGH, HIGH, HIGH}, {LOW, LOW, LOW, LOW}};
        for (int[] v : none) {
            due("joint" + java.util.Arrays.toString(v), x.joint(v[0], v[1], v[2], v[3]), false);
        }
        due("nothing has changed", x.gap(0, 900, 0), 0);
        due("joint at one edge", x.joint(0, 0, -10_000, -600), true);
        due("its gap", x.gap(0, 900, 0), 10);
        due("joint at the other edge", x.joint(0, 1_000_000, 10_000, 900), true);
        due("its gap", x.gap(0, 900, 0), 10);
    }

    private static void dueGap(BearingMoves x, int warmth, long above, long below) {
        String what = "gap(0, " + warmth + ", ";
        due(what + "-1)", x.gap(0, warmth, -1), Long.signum(above));
        due(what + "0)", x.gap(0, warmth, 0), Math.abs(above));
        due(what + "1)", x.gap(0, warmth, 1), below);
        due(what + "2)", x.gap(0, warmth, 2), 0);
        due(what + "HIGH)", x.gap(0, warmth, HIGH), 0);
    }

    private static void gap() {
        promise = 13;
        BearingMoves x = withBearings(0, 0);
        dueGap(x, 20, 0, 1);
        x.joint(0, 1_000_000, 10_000, -600);
        dueGap(x, -600, 10, 1);
        dueGap(x, 900, -1790, 1);
        dueGap(x, -599, 44, 5);
        x.joint(0, 7, 1, 0);
        dueGap(x, 0, 1, 1_000);
        dueGap(x, 1, 2_479, 2_500_000);
        dueGap(x, -1, 2_521, 2_500_000);
        x.joint(0, 1, 0, 0);
        dueGap(x, 1, -3, 2_500_000);
        due("gap(0, -601, 0)", x.gap(0, -601, 0), BAD);
        due("gap(0, 901, 1)", x.gap(0, 901, 1), BAD);
        due("gap(0, 901, -1)", x.gap(0, 901, -1), NONE);
        due("gap(1, 0, 0)", x.gap(1, 0, 0), BAD);
        due("gap(-1, 0, -1)", x.gap(-1, 0, -1), NONE);
        due("gap(0, 0, -2)", x.gap(0, 0, -2), BAD);
        due("gap(0, 0, LOW)", x.gap(0, 0, LOW), BAD);
    }

    private static void day() {
        promise = 14;
        BearingMoves x = new BearingMoves();
        for (int warmth : new int[] {-601, 901, LOW, HIGH}) {
            due("day(" + warmth + ")", x.day(warmth), BAD);
        }
        for (int i = 1; i <= 400; i++) {
            due("day " + i, x.day(i % 2 == 0 ? -600 : 900), i);
        }
        due("day 401", x.day(0), BAD);
        due("count(3)", x.count(3), 400);
    }

    private static void dueTravel(BearingMoves x, long above, long below) {
        due("travel(0, -1)", x.travel(0, -1), Long.signum(above));
        due("travel(0, 0)", x.travel(0, 0), above);
        due("travel(0, 1)", x.travel(0, 1), below);
        due("travel(0, 2)", x.travel(0, 2), 0);
        due("travel(0, 3)", x.travel(0, 3), 0);
    }

    private static void travel() {
        promise = 15;
        BearingMoves x = withBearings(0, 0, 1, 1);
        x.joint(0, 300_000, 2_500, 100);
        dueTravel(x, 0, 1);
        x.day(300);
        dueTravel(x, 0, 1);
        x.day(150);
        dueTravel(x, 54, 1);
        x.day(420);
        dueTravel(x, 756, 5);
        x.day(420);
        x.day(901);
        dueTravel(x, 756, 5);
        due("without a joint", x.travel(1, 0), 0);
        due("without a joint", x.travel(1, 1), 1);
        due("travel(2, 0)", x.travel(2, 0), BAD);
        due("travel(-1, -1)", x.travel(-1, -1), NONE);
        due("travel(0, -2)", x.travel(0, -2), BAD);
        due("travel(2, -2)", x.travel(2, -2), BAD);

        BearingMoves long1 = withBearings(0, 0);
        long1.joint(0, 1_000_000, 0, 0);
        for (int i = 0; i < 400; i++) {
            long1.day(i % 2 == 0 ? -600 : 900);
        }
        dueTravel(long1, 399L * 1_800, 1);
    }

    private static void list() {
        promise = 16;
        BearingMoves x = new BearingMoves();
        int[][] none = {{-1, 0}, {100_001, 0}, {0, -1}, {0, 10_000_001}, {HIGH, HIGH}, {LOW, LOW}};
        for (int[] v : none) {
            due("list" + java.util.Arrays.toString(v), x.list(v[0], v[1]), BAD);
        }
        due("list(0, 0)", x.list(0, 0), 0);
        due("list(100000, 10000000)", x.list(100_000, 10_000_000), 1);
        for (int i = 2; i < 12; i++) {
            due("list(5, 5)", x.list(5, 5), i);
        }
        due("list 12", x.list(5, 5), BAD);
        due("count(4)", x.count(4), 12);
    }

    private static void best() {
        promise = 17;
        BearingMoves x = withBearings(0, 0);
        due("an empty list", x.best(0), BAD);
        x.value(0, 0, 0, -61, 3);
        x.value(0, 0, 1, 20, 1);
        x.value(0, 0, 2, 3_001, 2);
        x.list(20, 5_000);
        x.list(1_000, 1_500);
        due("without rules all is 0", x.best(0), 1);
        read(x, "+a");
        due("moves below WORST, load below the greatest", x.best(0), BAD);
        x.list(22, 1_600);
        due("one that holds", x.best(0), 2);
        x.list(21, 1_600);
        due("lesser moves", x.best(0), 3);
        x.list(21, 1_600);
        due("the first of two", x.best(0), 3);
        x.list(900, 1_501);
        due("the least load comes before moves", x.best(0), 5);
        x.value(0, 0, 1, 1_801, 2);
        due("axis 1 counts, too", x.best(0), BAD);
        x.list(901, 1_501);
        due("axis 1 counts, too", x.best(0), 6);
        x.value(0, 0, 2, 1_501, 1);
        due("a load that is just held", x.best(0), 6);
        x.value(0, 0, 1, -901, 1);
        due("a move that is just held, without sign", x.best(0), 6);
        x.value(0, 0, 2, -999_999, 1);
        due("a load below 0 is held by all", x.best(0), 1);
        read(x, "*a");
        due("unless it has either sign", x.best(0), BAD);
        due("best(-1)", x.best(-1), BAD);
        due("best(1)", x.best(1), BAD);
    }

    private static void jack() {
        promise = 18;
        BearingMoves x = new BearingMoves();
        due("no bearings", x.jack(1, 1), BAD);
        x = withBearings(0, 0, 1, 1, 2, 2);
        int[][] none = {{0, 1}, {10_001, 1}, {1, 0}, {1, 10_001}, {-1, -1}, {HIGH, HIGH}, {LOW, LOW}};
        for (int[] v : none) {
            due("jack" + java.util.Arrays.toString(v), x.jack(v[0], v[1]), BAD);
        }
        due("jack(100, 30)", x.jack(100, 30), 12);
        due("jack(90, 30)", x.jack(90, 30), 9);
        due("jack(91, 30)", x.jack(91, 30), 12);
        due("jack(1, 10000)", x.jack(1, 10_000), 3);
        due("jack(10000, 10000)", x.jack(10_000, 10_000), 3);
        due("jack(10000, 1)", x.jack(10_000, 1), 30_000);
    }

    private static void raised() {
        promise = 19;
        BearingMoves x = withBearings(0, 0, 1, 1);
        due("no jack() yet", x.raised(0, 0), BAD);
        x.jack(100, 40);
        int[][] heights = {{0, 0}, {40, 0}, {40, 40}, {80, 40}, {80, 80}, {100, 80}, {100, 100}};
        for (int step = 0; step < heights.length; step++) {
            due("raised(" + step + ", 0)", x.raised(step, 0), heights[step][0]);
            due("raised(" + step + ", 1)", x.raised(step, 1), heights[step][1]);
        }
        due("raised(7, 0)", x.raised(7, 0), BAD);
        due("raised(-1, 0)", x.raised(-1, 0), BAD);
        due("raised(0, -1)", x.raised(0, -1), BAD);
        due("raised(0, 2)", x.raised(0, 2), BAD);
        due("raised(HIGH, 0)", x.raised(HIGH, 0), BAD);
        x.jack(0, 5);
        x.bearing(200_000, 0);
        due("a wrong jack() and a wrong bearing() change nothing", x.raised(1, 0), 40);
        x.jack(10, 20);
        due("the last jack() counts", x.raised(1, 0), 10);
        due("the last jack() counts", x.raised(3, 0), BAD);
        x.bearing(2, 2);
        due("a bearing came", x.raised(0, 0), BAD);
        x.jack(0, 5);
        due("a wrong jack() is none", x.raised(0, 0), BAD);
        x.jack(10, 20);
        due("jack() again", x.raised(2, 1), 10);
        due("jack() again", x.raised(2, 2), 0);
    }

    private static void dueOrder(String what, BearingMoves x, int... order) {
        for (int k = 0; k < order.length; k++) {
            due(what + ": inspect(" + k + ")", x.inspect(k), order[k]);
        }
        due(what + ": inspect(-1)", x.inspect(-1), BAD);
        due(what + ": inspect behind the last", x.inspect(order.length), BAD);
    }

    private static void inspect() {
        promise = 20;
        dueOrder("no bearings", new BearingMoves());
        BearingMoves x = withBearings(0, 0, 0, 0, 0, 0, 0, 0);
        dueOrder("nothing is known", x, 0, 1, 2, 3);
        x.joint(1, 10, 0, 0);
        x.joint(3, 20, 0, 0);
        dueOrder("no days", x, 0, 1, 2, 3);
        x.day(0);
        dueOrder("one day", x, 0, 1, 2, 3);
        x.day(1);
        dueOrder("more travel first", x, 3, 1, 0, 2);
        x.value(0, 0, 2, 1, 3);
        x.value(0, 2, 2, 1_000, 999);
        x.value(0, 1, 2, 1_000_000, 1);
        read(x, "-a;+a");
        dueOrder("then the greater sum", x, 3, 1, 2, 0);
        x.joint(1, 20, 9, 9);
        dueOrder("the same travel", x, 1, 3, 2, 0);
        read(x, "-a");
        dueOrder("the greatest sums, not the worst", x, 3, 1, 0, 2);
        due("inspect(HIGH)", x.inspect(HIGH), BAD);
        due("inspect(LOW)", x.inspect(LOW), BAD);
    }

    private static void count() {
        promise = 21;
        BearingMoves x = withBearings(0, 0, 1, 1, 2, 2, 3, 3);
        read(x, "+a+b;-c+d+e");
        x.day(0);
        x.list(1, 1);
        x.list(1, 1);
        x.list(1, 1);
        x.held(0, 0, true);
        x.held(0, 1, true);
        x.held(1, 1, true);
        x.held(3, 0, true);
        x.held(2, 0, true);
        x.held(2, 1, true);
        collected(x, " +a;  +");
        int[] counts = {4, 2, 5, 1, 3, 6, 7};
        for (int what = 0; what < counts.length; what++) {
            due("count(" + what + ")", x.count(what), counts[what]);
        }
        due("count(-1)", x.count(-1), BAD);
        due("count(7)", x.count(7), BAD);
        due("count(LOW)", x.count(LOW), BAD);
        due("count(HIGH)", x.count(HIGH), BAD);
    }
}
