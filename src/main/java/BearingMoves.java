/** What the bearings of a bridge must bear: see ../shared/DOC.md, whose promises the public methods keep. */
public final class BearingMoves {
    public static final int BAD = -1, NONE = -2;

    private static final int MOST_BEARINGS = 10, FARTHEST = 100_000;
    private static final int AXES = 3, UPRIGHT = 2;
    private static final int KINDS = 8, MOST_ABOVE = 1_000_000, MOST_BELOW = 1_000;
    private static final int MOST_SIGNS = 200, MOST_RULES = 8, MOST_TERMS = 6, MOST_DIGITS = 3;
    private static final int MOST_LENGTH = 1_000_000, MOST_GAP = 10_000;
    private static final int COLDEST = -600, WARMEST = 900, MOST_DAYS = 400;
    private static final int MOST_LISTED = 12, MOST_MOVES = 100_000, MOST_LOAD = 10_000_000;
    private static final int HIGHEST = 10_000;
    private static final int LEAST = 0, GREATEST = 1, WORST = 2;
    private static final int SIGN_PART = -1;

    /** Gaps and ways are reckoned in ten millionths of a mm: there a tenth of a degree moves whole numbers. */
    private static final long FINE_PER_MM = 10_000_000, FINE_PER_THOUSANDTH = 10_000, GROWTH = 12;

    /** Nine digits a limb, so that a product of two limbs fits a long and two limbs make one told part. */
    private static final long LIMB = 1_000_000_000;

    /** Six terms have up to 40 digits above and 36 below; comparing two sums multiplies one by the other. */
    private static final int LIMBS = 12;

    /** More steps than Euclid's way needs for any two longs. */
    private static final int MOST_EUCLID_STEPS = 100;

    private final Bearing[] bearings = new Bearing[MOST_BEARINGS];
    private int bearingCount;
    private final Differences differences = new Differences();

    private final RuleReader reader = new RuleReader();
    private RuleSet ruleSet = new RuleSet();
    private RuleSet spareRuleSet = new RuleSet();

    private final Scales scales = new Scales();
    private final Extremes extremes = new Extremes(scales);
    private final Fraction spoken = new Fraction();
    private final Fraction[] needs = {new Fraction(), new Fraction(), new Fraction()};

    private int dayCount;
    private int lastWarmth;
    private long warmthWay;

    private final int[] listedMoves = new int[MOST_LISTED];
    private final int[] listedLoads = new int[MOST_LISTED];
    private int listedCount;

    private int jackHeight;
    private int jackMost;
    private int raisings = BAD;

    public BearingMoves() {
    }

    public int bearing(int x, int y) {
        if (bearingCount >= MOST_BEARINGS || !isWithin(x, -FARTHEST, FARTHEST) || !isWithin(y, -FARTHEST, FARTHEST)) {
            return BAD;
        }
        bearings[bearingCount] = new Bearing(x, y);
        bearingCount++;
        raisings = BAD;
        return bearingCount - 1;
    }

    public boolean held(int bearing, int axis, boolean is) {
        Bearing at = find(bearing);
        if (at == null || !isWithin(axis, 0, 1)) {
            return false;
        }
        if (axis == 0) {
            at.heldAlongX = is;
        } else {
            at.heldAlongY = is;
        }
        return true;
    }

    public boolean value(int kind, int bearing, int axis, int above, int below) {
        Bearing at = find(bearing);
        if (at == null || !isWithin(kind, 0, KINDS - 1) || !isAxis(axis)
                || !isWithin(above, -MOST_ABOVE, MOST_ABOVE) || !isWithin(below, 1, MOST_BELOW)) {
            return false;
        }
        at.above[kind * AXES + axis] = above;
        at.below[kind * AXES + axis] = below;
        return true;
    }

    public boolean unit(int u) {
        return reader.collect(u);
    }

    public int rules() {
        int answer = reader.readInto(spareRuleSet);
        reader.forget();
        if (answer >= 0) {
            RuleSet old = ruleSet;
            ruleSet = spareRuleSet;
            spareRuleSet = old;
        }
        return answer;
    }

    public long sum(int bearing, int axis, int which, int part) {
        Bearing at = find(bearing);
        if (at == null || !isAxis(axis) || !isWithin(which, LEAST, WORST) || part < SIGN_PART) {
            return wrongFor(part);
        }
        extremes.reckon(ruleSet, at, axis);
        return extremes.chosen(which).partAt(part);
    }

    public int caseOf(int bearing, int axis, int which) {
        Bearing at = find(bearing);
        if (at == null || !isAxis(axis) || !isWithin(which, LEAST, GREATEST)) {
            return BAD;
        }
        extremes.reckon(ruleSet, at, axis);
        return which == LEAST ? extremes.leastCase : extremes.greatestCase;
    }

    public boolean locked() {
        return rank(true) > rank(false);
    }

    /**
     * A row less the first row of its axis has 0, 0 in front: so each axis that is held anywhere gives one rank,
     * and what these differences have in their last two numbers (or in the one before the last) gives the rest.
     */
    public int rank(boolean growing) {
        differences.clear();
        int axesHeld = (addDifferences(0) ? 1 : 0) + (addDifferences(1) ? 1 : 0);
        return axesHeld + (growing ? differences.rankOfBoth : differences.rankOfTurn);
    }

    public int direction(int bearing, int axis) {
        Bearing at = find(bearing);
        Bearing fixed = firstHeldOnBoth();
        if (at == null || fixed == null || !isWithin(axis, 0, 1)) {
            return BAD;
        }
        int alongX = at.x - fixed.x;
        int alongY = at.y - fixed.y;
        long divisor = commonDivisor(Math.abs(alongX), Math.abs(alongY));
        if (divisor == 0) {
            return 0;
        }
        return (int) ((axis == 0 ? alongX : alongY) / divisor);
    }

    public boolean joint(int bearing, int length, int gap, int warmth) {
        Bearing at = find(bearing);
        if (at == null || !isWithin(length, 0, MOST_LENGTH) || !isWithin(gap, -MOST_GAP, MOST_GAP)
                || !isWarmth(warmth)) {
            return false;
        }
        at.jointLength = length;
        at.jointGap = gap;
        at.jointWarmth = warmth;
        return true;
    }

    public long gap(int bearing, int warmth, int part) {
        Bearing at = find(bearing);
        if (at == null || !isWarmth(warmth) || part < SIGN_PART) {
            return wrongFor(part);
        }
        spoken.put(at.fineGapAt(warmth), FINE_PER_MM);
        return spoken.partAt(part);
    }

    public int day(int warmth) {
        if (!isWarmth(warmth) || dayCount >= MOST_DAYS) {
            return BAD;
        }
        if (dayCount > 0) {
            warmthWay += Math.abs(warmth - lastWarmth);
        }
        lastWarmth = warmth;
        dayCount++;
        return dayCount;
    }

    public long travel(int bearing, int part) {
        Bearing at = find(bearing);
        if (at == null || part < SIGN_PART) {
            return wrongFor(part);
        }
        spoken.put(at.fineWay(warmthWay), FINE_PER_MM);
        return spoken.partAt(part);
    }

    public int list(int moves, int load) {
        if (listedCount >= MOST_LISTED || !isWithin(moves, 0, MOST_MOVES) || !isWithin(load, 0, MOST_LOAD)) {
            return BAD;
        }
        listedMoves[listedCount] = moves;
        listedLoads[listedCount] = load;
        listedCount++;
        return listedCount - 1;
    }

    public int best(int bearing) {
        Bearing at = find(bearing);
        if (at == null) {
            return BAD;
        }
        for (int axis = 0; axis < AXES; axis++) {
            extremes.reckon(ruleSet, at, axis);
            needs[axis].copy(extremes.chosen(axis == UPRIGHT ? GREATEST : WORST));
        }
        int best = BAD;
        for (int i = 0; i < listedCount; i++) {
            if (holdsNeeds(i) && (best == BAD || isLesser(i, best))) {
                best = i;
            }
        }
        return best;
    }

    public int jack(int height, int most) {
        if (bearingCount == 0 || !isWithin(height, 1, HIGHEST) || !isWithin(most, 1, HIGHEST)) {
            return BAD;
        }
        jackHeight = height;
        jackMost = most;
        int rounds = (height + most - 1) / most;
        raisings = rounds * bearingCount;
        return raisings;
    }

    public int raised(int step, int bearing) {
        if (raisings == BAD || bearingCount == 0 || !isWithin(step, 0, raisings)
                || !isWithin(bearing, 0, bearingCount - 1)) {
            return BAD;
        }
        int rounds = step / bearingCount;
        boolean isDoneInThisRound = bearing < step % bearingCount;
        int times = isDoneInThisRound ? rounds + 1 : rounds;
        return Math.min(times * jackMost, jackHeight);
    }

    public int inspect(int k) {
        if (!isWithin(k, 0, bearingCount - 1)) {
            return BAD;
        }
        reckonLoads();
        for (int i = 0; i < bearingCount; i++) {
            if (placeOfInspection(i) == k) {
                return i;
            }
        }
        return BAD;
    }

    public int count(int what) {
        switch (what) {
            case 0:
                return bearingCount;
            case 1:
                return ruleSet.ruleCount;
            case 2:
                return ruleSet.termCount;
            case 3:
                return dayCount;
            case 4:
                return listedCount;
            case 5:
                return heldInAll();
            case 6:
                return reader.length;
            default:
                return BAD;
        }
    }

    private static boolean isWithin(int number, int least, int most) {
        return number >= least && number <= most;
    }

    private static boolean isAxis(int axis) {
        return isWithin(axis, 0, AXES - 1);
    }

    private static boolean isWarmth(int warmth) {
        return isWithin(warmth, COLDEST, WARMEST);
    }

    /** BAD is a sign that a fraction may have, so the part of the sign has another answer. */
    private static long wrongFor(int part) {
        return part == SIGN_PART ? NONE : BAD;
    }

    private static long commonDivisor(long one, long other) {
        long greater = one;
        long lesser = other;
        for (int i = 0; i < MOST_EUCLID_STEPS && lesser != 0; i++) {
            long rest = greater % lesser;
            greater = lesser;
            lesser = rest;
        }
        return greater;
    }

    private Bearing find(int bearing) {
        return isWithin(bearing, 0, bearingCount - 1) && bearing < MOST_BEARINGS ? bearings[bearing] : null;
    }

    private Bearing firstHeldOnBoth() {
        for (int i = 0; i < bearingCount; i++) {
            Bearing at = find(i);
            if (at != null && at.heldAlongX && at.heldAlongY) {
                return at;
            }
        }
        return null;
    }

    private int heldInAll() {
        int held = 0;
        for (int i = 0; i < bearingCount; i++) {
            Bearing at = find(i);
            if (at != null) {
                held += (at.heldAlongX ? 1 : 0) + (at.heldAlongY ? 1 : 0);
            }
        }
        return held;
    }

    /** Whether the axis is held anywhere. */
    private boolean addDifferences(int axis) {
        Bearing first = null;
        for (int i = 0; i < bearingCount; i++) {
            Bearing at = find(i);
            if (at != null && at.isHeldOn(axis)) {
                if (first == null) {
                    first = at;
                }
                int alongX = at.x - first.x;
                int alongY = at.y - first.y;
                differences.add(axis == 0 ? -alongY : alongX, axis == 0 ? alongX : alongY);
            }
        }
        return first != null;
    }

    private boolean holdsNeeds(int listed) {
        return scales.isSizeAtMost(needs[0], listedMoves[listed])
                && scales.isSizeAtMost(needs[1], listedMoves[listed])
                && (needs[UPRIGHT].sign < 0 || scales.isSizeAtMost(needs[UPRIGHT], listedLoads[listed]));
    }

    private boolean isLesser(int listed, int than) {
        if (listedLoads[listed] != listedLoads[than]) {
            return listedLoads[listed] < listedLoads[than];
        }
        return listedMoves[listed] < listedMoves[than];
    }

    private void reckonLoads() {
        for (int i = 0; i < bearingCount; i++) {
            Bearing at = find(i);
            if (at != null) {
                extremes.reckon(ruleSet, at, UPRIGHT);
                at.greatestLoad.copy(extremes.greatest);
            }
        }
    }

    private int placeOfInspection(int bearing) {
        int before = 0;
        for (int i = 0; i < bearingCount; i++) {
            if (i != bearing && isInspectedBefore(i, bearing)) {
                before++;
            }
        }
        return before;
    }

    private boolean isInspectedBefore(int one, int other) {
        Bearing a = find(one);
        Bearing b = find(other);
        if (a == null || b == null) {
            return false;
        }
        int byTravel = Long.compare(a.fineWay(warmthWay), b.fineWay(warmthWay));
        if (byTravel != 0) {
            return byTravel > 0;
        }
        int byLoad = scales.compare(a.greatestLoad, b.greatestLoad);
        return byLoad != 0 ? byLoad > 0 : one < other;
    }

    /** All that is told of one bearing. */
    private static final class Bearing {
        final int x;
        final int y;
        boolean heldAlongX;
        boolean heldAlongY;
        final int[] above = new int[KINDS * AXES];
        final int[] below = new int[KINDS * AXES];
        int jointLength;
        int jointGap;
        int jointWarmth;

        /** Room for the order of inspection, reckoned anew for each: values and rules change in between. */
        final Fraction greatestLoad = new Fraction();

        Bearing(int x, int y) {
            this.x = x;
            this.y = y;
            for (int i = 0; i < below.length; i++) {
                below[i] = 1;
            }
        }

        boolean isHeldOn(int axis) {
            return axis == 0 ? heldAlongX : heldAlongY;
        }

        long fineWay(long warmthWay) {
            return GROWTH * jointLength * warmthWay;
        }

        long fineGapAt(int warmth) {
            return FINE_PER_THOUSANDTH * jointGap - fineWay(warmth - jointWarmth);
        }
    }

    /** The rank of pairs of numbers, and of the first numbers of these pairs alone. */
    private static final class Differences {
        private long turn;
        private long growth;
        int rankOfBoth;
        int rankOfTurn;

        void clear() {
            turn = 0;
            growth = 0;
            rankOfBoth = 0;
            rankOfTurn = 0;
        }

        void add(long nextTurn, long nextGrowth) {
            if (nextTurn != 0) {
                rankOfTurn = 1;
            }
            if (rankOfBoth == 0 && (nextTurn != 0 || nextGrowth != 0)) {
                turn = nextTurn;
                growth = nextGrowth;
                rankOfBoth = 1;
            } else if (turn * nextGrowth != growth * nextTurn) {
                rankOfBoth = 2;
            }
        }
    }

    /** Rules as they were read, the terms of a rule side by side. */
    private static final class RuleSet {
        private final char[] signs = new char[MOST_RULES * MOST_TERMS];
        private final int[] uppers = new int[MOST_RULES * MOST_TERMS];
        private final int[] lowers = new int[MOST_RULES * MOST_TERMS];
        private final int[] kinds = new int[MOST_RULES * MOST_TERMS];
        private final int[] sizes = new int[MOST_RULES];
        int ruleCount;
        int termCount;

        void clear() {
            ruleCount = 0;
            termCount = 0;
        }

        boolean beginRule() {
            if (ruleCount >= MOST_RULES) {
                return false;
            }
            sizes[ruleCount] = 0;
            ruleCount++;
            return true;
        }

        boolean hasRoomForTerm() {
            return ruleCount > 0 && sizes[ruleCount - 1] < MOST_TERMS;
        }

        void addTerm(char sign, int upper, int lower, int kind) {
            if (!hasRoomForTerm()) {
                return;
            }
            int rule = ruleCount - 1;
            int term = rule * MOST_TERMS + sizes[rule];
            signs[term] = sign;
            uppers[term] = upper;
            lowers[term] = lower;
            kinds[term] = kind;
            sizes[rule]++;
            termCount++;
        }

        /** The sum of a rule, its terms of either sign all turned to the side (1 or -1). */
        void addUp(int rule, Bearing at, int axis, int side, TermSum into) {
            into.clear();
            for (int i = 0; i < sizes[rule]; i++) {
                int term = rule * MOST_TERMS + i;
                int place = kinds[term] * AXES + axis;
                long upper = (long) uppers[term] * at.above[place];
                long lower = (long) lowers[term] * at.below[place];
                into.add(turned(signs[term], upper, side), lower);
            }
        }

        private static long turned(char sign, long upper, int side) {
            if (sign == '*') {
                return side * Math.abs(upper);
            }
            return sign == '-' ? -upper : upper;
        }
    }

    /** The collected signs, and the reading of rules from them. Where reading fails, at is the wrong sign. */
    private static final class RuleReader {
        private final char[] signs = new char[MOST_SIGNS];
        int length;
        private int at;

        boolean collect(int sign) {
            if (length >= MOST_SIGNS || !isWithin(sign, ' ', '~')) {
                return false;
            }
            signs[length] = (char) sign;
            length++;
            return true;
        }

        void forget() {
            length = 0;
        }

        /** How many rules there are, or -1 less the number of the first wrong sign. */
        int readInto(RuleSet rules) {
            rules.clear();
            at = 0;
            boolean isMore = true;
            for (int i = 0; isMore && i <= MOST_RULES; i++) {
                skipBlanks();
                if (!rules.beginRule() || !readRule(rules)) {
                    return -1 - at;
                }
                isMore = take(';');
            }
            return rules.ruleCount;
        }

        private boolean readRule(RuleSet rules) {
            boolean isMore = true;
            for (int i = 0; isMore && i <= MOST_TERMS; i++) {
                if (!rules.hasRoomForTerm() || !readTerm(rules)) {
                    return false;
                }
                skipBlanks();
                isMore = at < length && here() != ';';
            }
            return true;
        }

        private boolean readTerm(RuleSet rules) {
            char sign = here();
            if (!take('+') && !take('-') && !take('*')) {
                return false;
            }
            int upper = 1;
            int lower = 1;
            if (isDigitHere()) {
                upper = readNumber();
                if (upper != 0 && take('/')) {
                    lower = readNumber();
                }
            }
            if (upper == 0 || lower == 0) {
                return false;
            }
            char letter = here();
            if (!isWithin(letter, 'a', 'h')) {
                return false;
            }
            at++;
            rules.addTerm(sign, upper, lower, letter - 'a');
            return true;
        }

        /** A number, and the blanks behind it; or 0, and at stays, if it is none. */
        private int readNumber() {
            int first = at;
            int number = 0;
            int digits = 0;
            for (int i = first; i < length && isWithin(signs[i], '0', '9'); i++) {
                if (digits < MOST_DIGITS) {
                    number = number * 10 + (signs[i] - '0');
                }
                digits++;
            }
            if (digits == 0 || digits > MOST_DIGITS || here() == '0') {
                return 0;
            }
            at = first + digits;
            skipBlanks();
            return number;
        }

        private boolean isDigitHere() {
            return isWithin(here(), '0', '9');
        }

        /** The sign at the place, or one that no rule has where the text ends. */
        private char here() {
            return at >= 0 && at < length ? signs[at] : 0;
        }

        private boolean take(char sign) {
            if (here() != sign) {
                return false;
            }
            at++;
            skipBlanks();
            return true;
        }

        private void skipBlanks() {
            for (int i = at; i < length && signs[i] == ' '; i++) {
                at = i + 1;
            }
        }
    }

    /** The least and the greatest sum for a bearing and an axis, and their cases. */
    private static final class Extremes {
        private final Scales scales;
        private final TermSum terms = new TermSum();
        private final Fraction candidate = new Fraction();
        final Fraction least = new Fraction();
        final Fraction greatest = new Fraction();
        int leastCase = BAD;
        int greatestCase = BAD;

        Extremes(Scales scales) {
            this.scales = scales;
        }

        void reckon(RuleSet rules, Bearing at, int axis) {
            least.put(0, 1);
            greatest.put(0, 1);
            leastCase = BAD;
            greatestCase = BAD;
            for (int rule = 0; rule < rules.ruleCount; rule++) {
                rules.addUp(rule, at, axis, 1, terms);
                terms.tell(candidate);
                if (greatestCase == BAD || scales.compare(candidate, greatest) > 0) {
                    greatest.copy(candidate);
                    greatestCase = rule;
                }
                rules.addUp(rule, at, axis, -1, terms);
                terms.tell(candidate);
                if (leastCase == BAD || scales.compare(candidate, least) < 0) {
                    least.copy(candidate);
                    leastCase = rule;
                }
            }
        }

        Fraction chosen(int which) {
            if (which == WORST) {
                return scales.compareSizes(least, greatest) > 0 ? least : greatest;
            }
            return which == LEAST ? least : greatest;
        }
    }

    /** A sum of small fractions over the product of their lower parts, whose factors are kept for reducing it. */
    private static final class TermSum {
        private final Natural plus = new Natural();
        private final Natural minus = new Natural();
        private final Natural product = new Natural();
        private final Natural next = new Natural();
        private final long[] factors = new long[MOST_TERMS];
        private int size;

        void clear() {
            plus.put(0);
            minus.put(0);
            product.put(1);
            size = 0;
        }

        void add(long upper, long lower) {
            if (upper == 0 || lower <= 0 || size >= MOST_TERMS) {
                return;
            }
            plus.multiply(lower);
            minus.multiply(lower);
            next.copy(product);
            next.multiply(Math.abs(upper));
            if (upper > 0) {
                plus.add(next);
            } else {
                minus.add(next);
            }
            product.multiply(lower);
            factors[size] = lower;
            size++;
        }

        /**
         * Whatever divides both parts divides them factor by factor: once a factor has nothing in common with
         * the upper part it stays so, for the upper part only loses divisors. So no great number divides another.
         */
        void tell(Fraction into) {
            into.sign = plus.compare(minus);
            into.upper.copy(into.sign < 0 ? minus : plus);
            into.upper.subtract(into.sign < 0 ? plus : minus);
            into.lower.put(1);
            for (int i = 0; i < size; i++) {
                long common = commonDivisor(factors[i], into.upper.remainder(factors[i]));
                if (common > 0) {
                    into.upper.divide(common);
                    into.lower.multiply(factors[i] / common);
                }
            }
        }
    }

    /** A fraction in least terms, 0 as 0 / 1. */
    private static final class Fraction {
        int sign;
        final Natural upper = new Natural();
        final Natural lower = new Natural();

        Fraction() {
            lower.put(1);
        }

        void put(long above, long below) {
            long common = commonDivisor(below, Math.abs(above));
            if (common <= 0) {
                return;
            }
            sign = Long.signum(above);
            upper.put(Math.abs(above) / common);
            lower.put(below / common);
        }

        void copy(Fraction other) {
            sign = other.sign;
            upper.copy(other.upper);
            lower.copy(other.lower);
        }

        long partAt(int part) {
            if (part == SIGN_PART) {
                return sign;
            }
            return part % 2 == 0 ? upper.eighteenDigits(part / 2) : lower.eighteenDigits(part / 2);
        }
    }

    /** Compares fractions; it has the room for their products, so that no fraction must. */
    private static final class Scales {
        private final Natural left = new Natural();
        private final Natural right = new Natural();

        int compare(Fraction one, Fraction other) {
            if (one.sign != other.sign) {
                return Integer.compare(one.sign, other.sign);
            }
            return one.sign * compareSizes(one, other);
        }

        int compareSizes(Fraction one, Fraction other) {
            left.putProduct(one.upper, other.lower);
            right.putProduct(other.upper, one.lower);
            return left.compare(right);
        }

        boolean isSizeAtMost(Fraction one, int limit) {
            right.copy(one.lower);
            right.multiply(limit);
            return one.upper.compare(right) <= 0;
        }
    }

    /** A whole number that is not negative, its lowest limb first; limbs from size on are not looked at. */
    private static final class Natural {
        private final long[] limbs = new long[LIMBS];
        private int size;

        void put(long number) {
            long rest = number;
            size = 0;
            for (int i = 0; i < LIMBS && rest > 0; i++) {
                append(rest % LIMB);
                rest /= LIMB;
            }
        }

        void copy(Natural other) {
            size = other.size;
            for (int i = 0; i < size; i++) {
                limbs[i] = other.limbs[i];
            }
        }

        void add(Natural other) {
            int length = Math.max(size, other.size);
            long carry = 0;
            for (int i = 0; i < length; i++) {
                long limb = limbAt(i) + other.limbAt(i) + carry;
                limbs[i] = limb % LIMB;
                carry = limb / LIMB;
            }
            size = length;
            if (carry > 0) {
                append(carry);
            }
        }

        /** The other one must not be greater. */
        void subtract(Natural other) {
            long borrowed = 0;
            for (int i = 0; i < size; i++) {
                long limb = limbs[i] - other.limbAt(i) - borrowed;
                borrowed = limb < 0 ? 1 : 0;
                limbs[i] = limb + borrowed * LIMB;
            }
            trim();
        }

        /** The factor must be below a limb's bound, so that what is carried is one limb. */
        void multiply(long factor) {
            long carry = 0;
            for (int i = 0; i < size; i++) {
                long limb = limbs[i] * factor + carry;
                limbs[i] = limb % LIMB;
                carry = limb / LIMB;
            }
            if (carry > 0) {
                append(carry);
            }
            trim();
        }

        void putProduct(Natural one, Natural other) {
            size = Math.min(one.size + other.size, LIMBS);
            for (int i = 0; i < size; i++) {
                limbs[i] = 0;
            }
            for (int i = 0; i < one.size; i++) {
                long carry = 0;
                for (int j = 0; j <= other.size && i + j < size; j++) {
                    long limb = limbs[i + j] + one.limbs[i] * other.limbAt(j) + carry;
                    limbs[i + j] = limb % LIMB;
                    carry = limb / LIMB;
                }
            }
            trim();
        }

        /** The divisor must be below a limb's bound, here and below. */
        void divide(long divisor) {
            if (divisor <= 0) {
                return;
            }
            long rest = 0;
            for (int i = size - 1; i >= 0; i--) {
                long limb = rest * LIMB + limbs[i];
                limbs[i] = limb / divisor;
                rest = limb % divisor;
            }
            trim();
        }

        long remainder(long divisor) {
            if (divisor <= 0) {
                return 0;
            }
            long rest = 0;
            for (int i = size - 1; i >= 0; i--) {
                rest = (rest * LIMB + limbs[i]) % divisor;
            }
            return rest;
        }

        int compare(Natural other) {
            if (size != other.size) {
                return Integer.compare(size, other.size);
            }
            for (int i = size - 1; i >= 0; i--) {
                if (limbs[i] != other.limbs[i]) {
                    return Long.compare(limbs[i], other.limbs[i]);
                }
            }
            return 0;
        }

        /** Digits 18 k and on, eighteen of them. */
        long eighteenDigits(int k) {
            if (k < 0 || k >= LIMBS / 2) {
                return 0;
            }
            return limbAt(2 * k) + limbAt(2 * k + 1) * LIMB;
        }

        private long limbAt(int i) {
            return i >= 0 && i < size ? limbs[i] : 0;
        }

        private void append(long limb) {
            if (size < LIMBS) {
                limbs[size] = limb;
                size++;
            }
        }

        private void trim() {
            for (int i = size - 1; i >= 0 && limbs[i] == 0; i--) {
                size = i;
            }
        }
    }
}
