import java.math.BigInteger;
import java.util.ArrayList;
import java.util.List;
import java.util.Random;

/** Random runs of calls, the same each time, on the class and on a slow model that is written another way. */
public final class BearingMovesAgainstModel {
    private static final int RUNS = 1_500, CALLS = 512, MOST_TOLD = 20;

    private static int wrong = 0;

    public static void main(String[] args) {
        for (int run = 0; run < RUNS && wrong < MOST_TOLD; run++) {
            new Run(run).play();
        }
        System.out.println(wrong == 0 ? "all answers are the model's" : wrong + " answers are not the model's");
        if (wrong != 0) {
            System.exit(1);
        }
    }

    /** One object's calls; what a run likes (great numbers, near places, wrong inputs) depends on its number. */
    private static final class Run {
        private final int number;
        private final Random random;
        private final BearingMoves real = new BearingMoves();
        private final Model model = new Model();
        private final boolean isGreat;
        private final int wrongInPercent;
        private int calls;

        Run(int number) {
            this.number = number;
            this.random = new Random(number * 7919L + 1);
            this.isGreat = number % 3 == 0;
            this.wrongInPercent = number % 5 == 0 ? 20 : 2;
        }

        void play() {
            for (int i = 0; i < (isGreat ? 1 + number % 2 : 1 + number % 10); i++) {
                bearing();
            }
            for (int i = 0; i < 60; i++) {
                value();
            }
            for (int i = 0; isGreat && i < 24; i++) {
                value(i / 3, 0, i % 3);
            }
            text();
            while (calls < CALLS) {
                call(random.nextInt(22));
            }
        }

        private void due(String call, long got, long want) {
            calls++;
            if (got != want) {
                wrong++;
                System.out.println("run " + number + ", call " + calls + ": " + call + " answered " + got
                    + ", the model " + want);
            }
        }

        private void due(String call, boolean got, boolean want) {
            due(call, got ? 1 : 0, want ? 1 : 0);
        }

        /** Mostly least .. most, often at its ends, and now and then outside. */
        private int some(int least, int most) {
            int choice = random.nextInt(100);
            if (choice < wrongInPercent) {
                int[] outside = {least - 1, most + 1, Integer.MIN_VALUE, Integer.MAX_VALUE, -2, most + 100};
                return outside[random.nextInt(outside.length)];
            }
            if (choice > 95) {
                return random.nextBoolean() ? least : most;
            }
            return least > most ? least : least + random.nextInt(most - least + 1);
        }

        private int someBearing() {
            return some(0, model.bearings.size() - 1);
        }

        private int somePart() {
            return some(-1, 7);
        }

        private int someWarmth() {
            return isGreat ? some(-600, 900) : some(0, 3);
        }

        private void bearing() {
            int far = isGreat ? 100_000 : 2;
            int x = some(-far, far);
            int y = some(-far, far);
            due("bearing(" + x + ", " + y + ")", real.bearing(x, y), model.bearing(x, y));
        }

        private void value() {
            value(some(0, 7), someBearing(), some(0, 2));
        }

        private void value(int kind, int b, int axis) {
            int above = isGreat ? some(-1_000_000, 1_000_000) : some(-3, 3);
            int below = isGreat ? some(1, 1_000) : some(1, 3);
            due("value(" + kind + ", " + b + ", " + axis + ", " + above + ", " + below + ")",
                real.value(kind, b, axis, above, below), model.value(kind, b, axis, above, below));
        }

        private void text() {
            StringBuilder text = new StringBuilder();
            int rules = random.nextInt(100) < wrongInPercent ? 9 : 1 + random.nextInt(isGreat ? 4 : 6);
            for (int rule = 0; rule < rules; rule++) {
                text.append(rule == 0 ? "" : ";");
                int goodTerms = isGreat ? 3 + random.nextInt(4) : 1 + random.nextInt(3);
                int terms = random.nextInt(100) < wrongInPercent ? 7 : goodTerms;
                for (int term = 0; term < terms; term++) {
                    blanks(text);
                    text.append("+-**".charAt(random.nextInt(4)));
                    blanks(text);
                    if (random.nextInt(3) > 0) {
                        text.append(1 + random.nextInt(isGreat ? 999 : 3));
                        blanks(text);
                        if (random.nextInt(3) > 0) {
                            text.append('/');
                            blanks(text);
                            text.append(1 + random.nextInt(isGreat ? 999 : 3));
                        }
                    }
                    text.append((char) ('a' + random.nextInt(8)));
                }
                blanks(text);
            }
            if (random.nextInt(4) == 0) {
                spoil(text);
            }
            for (int i = 0; i < text.length() && calls < CALLS - 1; i++) {
                int u = text.charAt(i);
                due("unit(" + u + ")", real.unit(u), model.unit(u));
            }
            due("rules() of '" + text + "'", real.rules(), model.rules());
        }

        private void blanks(StringBuilder text) {
            if (random.nextInt(10) == 0) {
                text.append(random.nextBoolean() ? " " : "  ");
            }
        }

        private void spoil(StringBuilder text) {
            String signs = "+-*;/ 0123456789abchiAZ~";
            for (int i = 0; i <= random.nextInt(3); i++) {
                int at = random.nextInt(text.length() + 1);
                char sign = signs.charAt(random.nextInt(signs.length()));
                switch (random.nextInt(3)) {
                    case 0 -> text.insert(at, sign);
                    case 1 -> text.setLength(at);
                    default -> text.replace(at, Math.min(at + 1, text.length()), String.valueOf(sign));
                }
            }
        }

        private void call(int which) {
            switch (which) {
                case 0 -> {
                    if (random.nextInt(isGreat ? 40 : 4) == 0) {
                        bearing();
                    }
                }
                case 1, 2 -> held();
                case 3, 4 -> value();
                case 5 -> {
                    int u = some(32, 126);
                    if (random.nextInt(30) == 0) {
                        due("unit(" + u + ")", real.unit(u), model.unit(u));
                    }
                }
                case 6 -> {
                    if (random.nextInt(8) == 0) {
                        text();
                    }
                }
                case 7, 8 -> sum();
                case 9 -> {
                    int b = someBearing();
                    int axis = some(0, 2);
                    int side = some(0, 1);
                    due("caseOf(" + b + ", " + axis + ", " + side + ")", real.caseOf(b, axis, side),
                        model.caseOf(b, axis, side));
                }
                case 10 -> due("locked()", real.locked(), model.locked());
                case 11 -> {
                    boolean growing = random.nextBoolean();
                    due("rank(" + growing + ")", real.rank(growing), model.rank(growing));
                }
                case 12 -> {
                    int b = someBearing();
                    int axis = some(0, 1);
                    due("direction(" + b + ", " + axis + ")", real.direction(b, axis), model.direction(b, axis));
                }
                default -> laterCall(which);
            }
        }

        private void laterCall(int which) {
            switch (which) {
                case 13 -> joint();
                case 14 -> {
                    int b = someBearing();
                    int w = someWarmth();
                    int part = somePart();
                    due("gap(" + b + ", " + w + ", " + part + ")", real.gap(b, w, part), model.gap(b, w, part));
                }
                case 15 -> {
                    int w = someWarmth();
                    due("day(" + w + ")", real.day(w), model.day(w));
                }
                case 16 -> {
                    int b = someBearing();
                    int part = somePart();
                    due("travel(" + b + ", " + part + ")", real.travel(b, part), model.travel(b, part));
                }
                case 17 -> {
                    int moves = isGreat ? some(0, 100_000) : some(0, 12);
                    int load = isGreat ? some(0, 10_000_000) : some(0, 12);
                    due("list(" + moves + ", " + load + ")", real.list(moves, load), model.list(moves, load));
                }
                case 18 -> {
                    int b = someBearing();
                    due("best(" + b + ")", real.best(b), model.best(b));
                }
                case 19 -> {
                    int height = isGreat ? some(1, 10_000) : some(1, 9);
                    int most = isGreat ? some(1, 10_000) : some(1, 4);
                    due("jack(" + height + ", " + most + ")", real.jack(height, most), model.jack(height, most));
                }
                case 20 -> {
                    int step = some(0, model.heights == null ? 3 : model.heights.size() - 1);
                    int b = someBearing();
                    due("raised(" + step + ", " + b + ")", real.raised(step, b), model.raised(step, b));
                }
                default -> {
                    int k = someBearing();
                    due("inspect(" + k + ")", real.inspect(k), model.inspect(k));
                    int what = some(0, 6);
                    if (calls < CALLS) {
                        due("count(" + what + ")", real.count(what), model.count(what));
                    }
                }
            }
        }

        private void held() {
            int b = someBearing();
            int axis = some(0, 1);
            boolean is = random.nextInt(3) == 0;
            due("held(" + b + ", " + axis + ", " + is + ")", real.held(b, axis, is), model.held(b, axis, is));
        }

        private void joint() {
            int b = someBearing();
            int length = isGreat ? some(0, 1_000_000) : some(0, 2);
            int gap = isGreat ? some(-10_000, 10_000) : some(-2, 2);
            int w = someWarmth();
            due("joint(" + b + ", " + length + ", " + gap + ", " + w + ")", real.joint(b, length, gap, w),
                model.joint(b, length, gap, w));
        }

        private void sum() {
            int b = someBearing();
            int axis = some(0, 2);
            int which = some(0, 2);
            int part = somePart();
            due("sum(" + b + ", " + axis + ", " + which + ", " + part + ")", real.sum(b, axis, which, part),
                model.sum(b, axis, which, part));
        }
    }

    /** A fraction in least terms. */
    private record Ratio(BigInteger above, BigInteger below) implements Comparable<Ratio> {
        static final Ratio ZERO = of(0, 1);

        static Ratio of(long above, long below) {
            return of(BigInteger.valueOf(above), BigInteger.valueOf(below));
        }

        static Ratio of(BigInteger above, BigInteger below) {
            BigInteger common = above.gcd(below);
            common = below.signum() < 0 ? common.negate() : common;
            return new Ratio(above.divide(common), below.divide(common));
        }

        Ratio plus(Ratio other) {
            return of(above.multiply(other.below).add(other.above.multiply(below)), below.multiply(other.below));
        }

        Ratio times(Ratio other) {
            return of(above.multiply(other.above), below.multiply(other.below));
        }

        Ratio negated() {
            return new Ratio(above.negate(), below);
        }

        Ratio size() {
            return new Ratio(above.abs(), below);
        }

        @Override
        public int compareTo(Ratio other) {
            return above.multiply(other.below).compareTo(other.above.multiply(below));
        }

        long part(int part) {
            if (part == -1) {
                return above.signum();
            }
            BigInteger rest = part % 2 == 0 ? above.abs() : below;
            BigInteger eighteen = BigInteger.TEN.pow(18);
            for (int i = 0; i < part / 2 && rest.signum() > 0; i++) {
                rest = rest.divide(eighteen);
            }
            return rest.mod(eighteen).longValueExact();
        }
    }

    private static final class Place {
        int x;
        int y;
        boolean[] held = new boolean[2];
        Ratio[][] values = new Ratio[8][3];
        int length;
        int gap;
        int warmth;
    }

    private record Term(char sign, Ratio times, int kind) { }

    private static final class Model {
        final List<Place> bearings = new ArrayList<>();
        private StringBuilder text = new StringBuilder();
        private List<List<Term>> rules = new ArrayList<>();
        private final List<Integer> days = new ArrayList<>();
        private final List<int[]> listed = new ArrayList<>();
        List<int[]> heights;

        private static boolean in(int number, int least, int most) {
            return least <= number && number <= most;
        }

        private boolean none(int b) {
            return !in(b, 0, bearings.size() - 1);
        }

        int bearing(int x, int y) {
            if (bearings.size() == 10 || !in(x, -100_000, 100_000) || !in(y, -100_000, 100_000)) {
                return -1;
            }
            Place place = new Place();
            place.x = x;
            place.y = y;
            for (Ratio[] row : place.values) {
                java.util.Arrays.fill(row, Ratio.ZERO);
            }
            bearings.add(place);
            heights = null;
            return bearings.size() - 1;
        }

        boolean held(int b, int axis, boolean is) {
            if (none(b) || !in(axis, 0, 1)) {
                return false;
            }
            bearings.get(b).held[axis] = is;
            return true;
        }

        boolean value(int kind, int b, int axis, int above, int below) {
            if (!in(kind, 0, 7) || none(b) || !in(axis, 0, 2) || !in(above, -1_000_000, 1_000_000)
                    || !in(below, 1, 1_000)) {
                return false;
            }
            bearings.get(b).values[kind][axis] = Ratio.of(above, below);
            return true;
        }

        boolean unit(int u) {
            if (!in(u, 32, 126) || text.length() == 200) {
                return false;
            }
            text.append((char) u);
            return true;
        }

        /** Tokens by a table of what may follow what: r rule begins, s sign, n and m numbers, / and l letter. */
        int rules() {
            String t = text.toString();
            text = new StringBuilder();
            List<List<Term>> read = new ArrayList<>();
            char state = 'r';
            char sign = 0;
            int above = 1;
            int below = 1;
            for (int i = 0; i < t.length(); i++) {
                char c = t.charAt(i);
                if (c == ' ') {
                    continue;
                }
                if ((state == 'r' || state == 'l') && "+-*".indexOf(c) >= 0) {
                    if (state == 'r') {
                        read.add(new ArrayList<>());
                    }
                    if (read.size() > 8 || read.get(read.size() - 1).size() == 6) {
                        return -1 - i;
                    }
                    sign = c;
                    above = 1;
                    below = 1;
                    state = 's';
                } else if ((state == 's' || state == '/') && Character.isDigit(c)) {
                    String digits = t.substring(i).replaceFirst("[^0-9](?s:.*)", "");
                    if (!digits.matches("[1-9][0-9]{0,2}")) {
                        return -1 - i;
                    }
                    above = state == 's' ? Integer.parseInt(digits) : above;
                    below = state == 's' ? below : Integer.parseInt(digits);
                    state = state == 's' ? 'n' : 'm';
                    i += digits.length() - 1;
                } else if (state == 'n' && c == '/') {
                    state = '/';
                } else if ((state == 's' || state == 'n' || state == 'm') && c >= 'a' && c <= 'h') {
                    read.get(read.size() - 1).add(new Term(sign, Ratio.of(above, below), c - 'a'));
                    state = 'l';
                } else if (state == 'l' && c == ';') {
                    state = 'r';
                } else {
                    return -1 - i;
                }
            }
            if (state != 'l') {
                return -1 - t.length();
            }
            rules = read;
            return rules.size();
        }

        /** All sums of a rule, one for each choice of signs. */
        private List<Ratio> sums(List<Term> rule, Place place, int axis) {
            List<Ratio> sums = new ArrayList<>(List.of(Ratio.ZERO));
            for (Term term : rule) {
                Ratio value = term.times.times(place.values[term.kind][axis]);
                List<Ratio> next = new ArrayList<>();
                for (Ratio sum : sums) {
                    if (term.sign != '-') {
                        next.add(sum.plus(value));
                    }
                    if (term.sign != '+') {
                        next.add(sum.plus(value.negated()));
                    }
                }
                sums = next;
            }
            return sums;
        }

        private Ratio extreme(Place place, int axis, int side, int[] its) {
            Ratio found = Ratio.ZERO;
            its[0] = -1;
            for (int i = 0; i < rules.size(); i++) {
                for (Ratio sum : sums(rules.get(i), place, axis)) {
                    int c = sum.compareTo(found);
                    if (its[0] == -1 || (side == 0 ? c < 0 : c > 0)) {
                        found = sum;
                        its[0] = i;
                    }
                }
            }
            return found;
        }

        private Ratio chosen(Place place, int axis, int which) {
            if (which < 2) {
                return extreme(place, axis, which, new int[1]);
            }
            Ratio least = chosen(place, axis, 0);
            Ratio greatest = chosen(place, axis, 1);
            return least.size().compareTo(greatest.size()) > 0 ? least : greatest;
        }

        long sum(int b, int axis, int which, int part) {
            if (none(b) || !in(axis, 0, 2) || !in(which, 0, 2) || part < -1) {
                return part == -1 ? -2 : -1;
            }
            return chosen(bearings.get(b), axis, which).part(part);
        }

        int caseOf(int b, int axis, int which) {
            if (none(b) || !in(axis, 0, 2) || !in(which, 0, 1)) {
                return -1;
            }
            int[] its = new int[1];
            extreme(bearings.get(b), axis, which, its);
            return its[0];
        }

        boolean locked() {
            return rank(true) != rank(false);
        }

        int rank(boolean growing) {
            List<Ratio[]> rows = new ArrayList<>();
            for (Place p : bearings) {
                if (p.held[0]) {
                    rows.add(row(1, 0, -p.y, p.x));
                }
                if (p.held[1]) {
                    rows.add(row(0, 1, p.x, p.y));
                }
            }
            int rank = 0;
            for (int column = 0; column < (growing ? 4 : 3); column++) {
                int pivot = rank;
                while (pivot < rows.size() && rows.get(pivot)[column].above.signum() == 0) {
                    pivot++;
                }
                if (pivot < rows.size()) {
                    java.util.Collections.swap(rows, pivot, rank);
                    clearBelow(rows, rank, column);
                    rank++;
                }
            }
            return rank;
        }

        private static Ratio[] row(int... numbers) {
            Ratio[] row = new Ratio[numbers.length];
            for (int i = 0; i < row.length; i++) {
                row[i] = Ratio.of(numbers[i], 1);
            }
            return row;
        }

        private static void clearBelow(List<Ratio[]> rows, int pivot, int column) {
            Ratio[] top = rows.get(pivot);
            for (int i = pivot + 1; i < rows.size(); i++) {
                Ratio[] row = rows.get(i);
                Ratio times = row[column].times(Ratio.of(top[column].below, top[column].above)).negated();
                for (int j = 0; j < row.length; j++) {
                    row[j] = row[j].plus(top[j].times(times));
                }
            }
        }

        int direction(int b, int axis) {
            if (none(b) || !in(axis, 0, 1)) {
                return -1;
            }
            for (Place fixed : bearings) {
                if (fixed.held[0] && fixed.held[1]) {
                    int[] way = {bearings.get(b).x - fixed.x, bearings.get(b).y - fixed.y};
                    int common = BigInteger.valueOf(way[0]).gcd(BigInteger.valueOf(way[1])).intValue();
                    return way[axis] / Math.max(common, 1);
                }
            }
            return -1;
        }

        boolean joint(int b, int length, int gap, int warmth) {
            if (none(b) || !in(length, 0, 1_000_000) || !in(gap, -10_000, 10_000) || !in(warmth, -600, 900)) {
                return false;
            }
            Place place = bearings.get(b);
            place.length = length;
            place.gap = gap;
            place.warmth = warmth;
            return true;
        }

        private static Ratio gapOf(Place place, int warmth) {
            Ratio degrees = Ratio.of(warmth - place.warmth, 10);
            Ratio growth = Ratio.of(place.length, 1).times(Ratio.of(12, 1_000_000)).times(degrees);
            return Ratio.of(place.gap, 1_000).plus(growth.negated());
        }

        long gap(int b, int warmth, int part) {
            if (none(b) || !in(warmth, -600, 900) || part < -1) {
                return part == -1 ? -2 : -1;
            }
            return gapOf(bearings.get(b), warmth).part(part);
        }

        int day(int warmth) {
            if (!in(warmth, -600, 900) || days.size() == 400) {
                return -1;
            }
            days.add(warmth);
            return days.size();
        }

        private Ratio travelOf(Place place) {
            Ratio all = Ratio.ZERO;
            for (int i = 1; i < days.size(); i++) {
                all = all.plus(gapOf(place, days.get(i)).plus(gapOf(place, days.get(i - 1)).negated()).size());
            }
            return all;
        }

        long travel(int b, int part) {
            if (none(b) || part < -1) {
                return part == -1 ? -2 : -1;
            }
            return travelOf(bearings.get(b)).part(part);
        }

        int list(int moves, int load) {
            if (listed.size() == 12 || !in(moves, 0, 100_000) || !in(load, 0, 10_000_000)) {
                return -1;
            }
            listed.add(new int[] {load, moves, listed.size()});
            return listed.size() - 1;
        }

        int best(int b) {
            if (none(b)) {
                return -1;
            }
            Place place = bearings.get(b);
            Ratio alongX = chosen(place, 0, 2).size();
            Ratio alongY = chosen(place, 1, 2).size();
            Ratio upright = chosen(place, 2, 1);
            return listed.stream()
                .filter(l -> Ratio.of(l[1], 1).compareTo(alongX) >= 0 && Ratio.of(l[1], 1).compareTo(alongY) >= 0
                    && Ratio.of(l[0], 1).compareTo(upright) >= 0)
                .min(java.util.Arrays::compare).map(l -> l[2]).orElse(-1);
        }

        int jack(int height, int most) {
            if (bearings.isEmpty() || !in(height, 1, 10_000) || !in(most, 1, 10_000)) {
                return -1;
            }
            heights = new ArrayList<>();
            int[] now = new int[bearings.size()];
            heights.add(now.clone());
            while (now[now.length - 1] < height) {
                for (int i = 0; i < now.length; i++) {
                    now[i] = Math.min(now[i] + most, height);
                    heights.add(now.clone());
                }
            }
            return heights.size() - 1;
        }

        int raised(int step, int b) {
            if (heights == null || !in(step, 0, heights.size() - 1) || none(b)) {
                return -1;
            }
            return heights.get(step)[b];
        }

        int inspect(int k) {
            if (none(k)) {
                return -1;
            }
            List<Integer> order = new ArrayList<>();
            List<Ratio> travels = new ArrayList<>();
            List<Ratio> loads = new ArrayList<>();
            for (int i = 0; i < bearings.size(); i++) {
                order.add(i);
                travels.add(travelOf(bearings.get(i)));
                loads.add(chosen(bearings.get(i), 2, 1));
            }
            order.sort((a, b) -> {
                int c = travels.get(b).compareTo(travels.get(a));
                c = c != 0 ? c : loads.get(b).compareTo(loads.get(a));
                return c != 0 ? c : Integer.compare(a, b);
            });
            return order.get(k);
        }

        int count(int what) {
            return switch (what) {
                case 0 -> bearings.size();
                case 1 -> rules.size();
                case 2 -> rules.stream().mapToInt(List::size).sum();
                case 3 -> days.size();
                case 4 -> listed.size();
                case 5 -> bearings.stream().mapToInt(p -> (p.held[0] ? 1 : 0) + (p.held[1] ? 1 : 0)).sum();
                case 6 -> text.length();
                default -> -1;
            };
        }
    }
}
