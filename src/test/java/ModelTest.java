import java.util.ArrayList;
import java.util.List;
import java.util.Random;
import java.util.TreeSet;

/** Long runs of drawn calls, good and bad ones, against a second and plainer writing of the document. */
public final class ModelTest {
    private static final int RUNS = 500;
    private static final int CALLS = 512;

    public static void main(String[] args) {
        int[] seen = new int[29];
        for (int run = 0; run < RUNS; run++) {
            if (!sameAnswers(run, seen)) {
                System.exit(1);
            }
        }
        for (int promise = 2; promise <= 28; promise++) {
            if (seen[promise] == 0) {
                System.out.println("promise " + promise + " was never called");
                System.exit(1);
            }
        }
        System.out.println("all answers are as the model's");
    }

    private static boolean sameAnswers(int run, int[] seen) {
        Random random = new Random(run);
        long seed = run % 4 == 0 ? 0 : run % 4 == 1 ? run : random.nextLong();
        AreaGoals x = new AreaGoals(seed);
        Model model = new Model(seed);
        Caller caller = new Caller(random, run);
        List<String> told = new ArrayList<>();
        for (int i = 0; i < CALLS; i++) {
            caller.next(model.cost.size());
            seen[caller.promise]++;
            told.add(caller.toString());
            long want = caller.ask(model);
            long got = caller.ask(x);
            told.add(" = " + got);
            if (got != want) {
                System.out.println("seed " + seed + ": " + String.join("", told) + ", due is " + want);
                return false;
            }
        }
        return true;
    }

    /** Draws calls; each run has its own habits, so that some stay small enough to search and some grow large. */
    private static final class Caller {
        private static final String[] NAMES = {"", "", "cell", "holds", "goal", "near", "weight", "must", "bar",
            "zone", "run", "chosen", "cost", "bound", "met", "clash", "proved", "improve", "often", "port", "loss",
            "fair", "border", "size", "year", "wind", "unlike", "far", "tie"};
        private static final long[] EXTREMES = {Long.MIN_VALUE, Long.MAX_VALUE, Integer.MIN_VALUE,
            Integer.MAX_VALUE, -1, 0, 1, 24, 25, 32, 33, 101, 1001, 1000001};
        private final Random random;
        private final int mostCells;
        private final boolean flat;
        private int promise;
        private long a;
        private long b;
        private long c;
        private long d;

        Caller(Random random, int run) {
            this.random = random;
            mostCells = 1 + run % 25;
            flat = run % 3 == 0;
        }

        @Override public String toString() {
            return "\n" + NAMES[promise] + "(" + a + ", " + b + ", " + c + ", " + d + ")";
        }

        private long below(long n) {
            return (random.nextLong() >>> 1) % n;
        }

        /** A cost or the like: with few values in a flat run, so that many choices cost the same. */
        private long amount(long most) {
            return flat ? below(3) : random.nextInt(4) == 0 ? below(most + 1) : below(40);
        }

        /** Mostly a cell that there is, at times the first that there is not. */
        private long anyCell(int cells) {
            return cells == 0 || random.nextInt(12) == 0 ? cells : below(cells);
        }

        private boolean isHard() {
            return promise == 4 || promise == 7 || promise == 8 || promise == 21 || promise == 23;
        }

        void next(int cells) {
            promise = 2 + random.nextInt(27);
            if (cells < mostCells && random.nextInt(4) == 0) {
                promise = 2;
            } else if (promise == 2 && cells >= mostCells && random.nextInt(10) != 0) {
                promise = 10;
            }
            // What is hard to meet, and what can't be taken back, leaves little to choose, so it comes less often.
            if (isHard() && random.nextInt(4) != 0) {
                promise = random.nextBoolean() ? 10 : 17;
            }
            long anyCell = anyCell(cells);
            long otherCell = anyCell(cells);
            a = anyCell;
            b = 0;
            c = 0;
            d = 0;
            switch (promise) {
                case 2 -> a = amount(1000000);
                case 3 -> {
                    b = below(flat ? 3 : 8);
                    c = flat ? below(4) : below(1001);
                    d = 1 + below(flat ? 3 : 16);
                }
                case 4 -> {
                    a = below(flat ? 3 : 8);
                    c = 1 + below(100);
                    b = below(1 + c / (1 + below(8)));
                }
                case 5 -> {
                    b = otherCell;
                    c = amount(1000);
                }
                case 6 -> a = amount(1000);
                case 9 -> {
                    a = below(5);
                    b = below(flat ? 3 : 9);
                }
                case 10 -> a = random.nextInt(4) == 0 ? 1L << below(14) : 4096;
                case 14 -> {
                    a = below(flat ? 3 : 9);
                    b = below(3);
                }
                case 15, 28 -> a = below(4) - below(2);
                case 17 -> a = 1 + below(random.nextInt(10) == 0 ? 1000 : 60);
                case 18 -> b = 1 + below(20);
                case 19 -> {
                    b = below(4);
                    c = amount(1000000);
                }
                case 20 -> {
                    a = below(5);
                    b = below(3);
                }
                case 21 -> {
                    b = 1 + below(100);
                    a = random.nextBoolean() ? b : b - below(1 + b / (1 + below(9)));
                }
                case 23 -> a = below(random.nextInt(9) == 0 ? 26 : 1 + cells / 3);
                case 25 -> b = random.nextInt(3) == 0 ? below(1000001) : amount(1000000);
                case 26 -> a = below(26);
                case 27 -> {
                    b = otherCell;
                    c = below(8) - 1;
                }
                default -> { }
            }
            if (random.nextInt(25) == 0) {
                spoil();
            }
        }

        private void spoil() {
            long extreme = EXTREMES[random.nextInt(EXTREMES.length)];
            switch (random.nextInt(4)) {
                case 0 -> a = extreme;
                case 1 -> b = extreme;
                case 2 -> c = extreme;
                default -> d = extreme;
            }
        }

        long ask(AreaGoals x) {
            return switch (promise) {
                case 2 -> x.cell(a);
                case 3 -> x.holds((int) a, (int) b, c, d) ? 1 : 0;
                case 4 -> x.goal((int) a, b, c) ? 1 : 0;
                case 5 -> x.near((int) a, (int) b, c) ? 1 : 0;
                case 6 -> x.weight(a) ? 1 : 0;
                case 7 -> x.must((int) a) ? 1 : 0;
                case 8 -> x.bar((int) a) ? 1 : 0;
                case 9 -> x.zone((int) a, (int) b);
                case 10 -> x.run(a);
                case 11 -> x.chosen((int) a) ? 1 : 0;
                case 12 -> x.cost();
                case 13 -> x.bound();
                case 14 -> x.met((int) a, (int) b);
                case 15 -> x.clash((int) a);
                case 16 -> x.proved() ? 1 : 0;
                case 17 -> x.improve((int) a);
                case 18 -> x.often((int) a, (int) b);
                case 19 -> x.port((int) a, (int) b, c) ? 1 : 0;
                case 20 -> x.loss((int) a, (int) b);
                case 21 -> x.fair(a, b) ? 1 : 0;
                case 22 -> x.border();
                case 23 -> x.size((int) a);
                case 24 -> x.year((int) a);
                case 25 -> x.wind((int) a, b) ? 1 : 0;
                case 26 -> x.unlike((int) a);
                case 27 -> x.far((int) a, (int) b, (int) c) ? 1 : 0;
                default -> x.tie((int) a);
            };
        }

        long ask(Model x) {
            return switch (promise) {
                case 2 -> x.cell(a);
                case 3 -> x.holds((int) a, (int) b, c, d) ? 1 : 0;
                case 4 -> x.goal((int) a, b, c) ? 1 : 0;
                case 5 -> x.near((int) a, (int) b, c) ? 1 : 0;
                case 6 -> x.weight(a) ? 1 : 0;
                case 7 -> x.state((int) a, 'm') ? 1 : 0;
                case 8 -> x.state((int) a, 'b') ? 1 : 0;
                case 9 -> x.zone((int) a, (int) b);
                case 10 -> x.run(a);
                case 11 -> x.latest != null && x.latest.contains((int) a) ? 1 : 0;
                case 12 -> x.latest == null ? -1 : x.latestCost;
                case 13 -> x.bound;
                case 14 -> x.met((int) a, (int) b);
                case 15 -> Model.kth(x.clashes, (int) a);
                case 16 -> x.answer == 0 || x.answer == 1 ? 1 : 0;
                case 17 -> x.improve((int) a);
                case 18 -> x.often((int) a, (int) b);
                case 19 -> x.port((int) a, (int) b, c) ? 1 : 0;
                case 20 -> x.loss((int) a, (int) b);
                case 21 -> x.fair(a, b) ? 1 : 0;
                case 22 -> x.latest == null ? -1 : x.borderOf(x.latest);
                case 23 -> x.size((int) a);
                case 24 -> x.year((int) a);
                case 25 -> x.wind((int) a, b) ? 1 : 0;
                case 26 -> x.unlike((int) a);
                case 27 -> x.far((int) a, (int) b, (int) c) ? 1 : 0;
                default -> x.tie((int) a);
            };
        }
    }

    /** The document word for word, with sets of numbers, and every sum made anew each time. */
    private static final class Model {
        final List<Long> cost = new ArrayList<>();
        final List<Character> state = new ArrayList<>();
        final long[][] amount = new long[24][8];
        final long[][] hours = new long[24][4];
        final long[][] border = new long[24][24];
        final boolean[][] tooFar = new boolean[24][24];
        final long[][] goal = new long[8][];
        long[] fair = null;
        long weight = 0;
        int least = 0;
        long x;
        TreeSet<Integer> latest = null;
        TreeSet<Integer> before = null;
        long latestCost = -1;
        long bound = -1;
        int answer = -1;
        List<Integer> clashes = new ArrayList<>();

        Model(long seed) {
            x = seed == 0 ? 88172645463325252L : seed;
        }

        boolean isCell(int c) {
            return 0 <= c && c < cost.size();
        }

        static boolean share(long above, long below) {
            return 0 <= above && above <= below && 1 <= below && below <= 100;
        }

        long cell(long told) {
            if (cost.size() == 24 || told < 0 || told > 1_000_000) {
                return -1;
            }
            cost.add(told);
            state.add('f');
            return cost.size() - 1;
        }

        boolean holds(int c, int kind, long above, long below) {
            if (!isCell(c) || kind < 0 || kind > 7 || above < 0 || above > 1000 || below < 1 || below > 16) {
                return false;
            }
            amount[c][kind] = 720720 * above / below;
            return true;
        }

        boolean goal(int kind, long above, long below) {
            if (kind < 0 || kind > 7 || !share(above, below)) {
                return false;
            }
            goal[kind] = new long[] {above, below};
            return true;
        }

        boolean fair(long above, long below) {
            if (!share(above, below)) {
                return false;
            }
            fair = new long[] {above, below};
            return true;
        }

        boolean near(int a, int b, long length) {
            if (!isCell(a) || !isCell(b) || a == b || length < 0 || length > 1000) {
                return false;
            }
            border[a][b] = length;
            border[b][a] = length;
            return true;
        }

        boolean far(int a, int b, int most) {
            if (!isCell(a) || !isCell(b) || a == b) {
                return false;
            }
            tooFar[a][b] = most < 0;
            tooFar[b][a] = most < 0;
            return true;
        }

        boolean weight(long told) {
            if (told < 0 || told > 1000) {
                return false;
            }
            weight = told;
            return true;
        }

        boolean state(int c, char told) {
            if (!isCell(c)) {
                return false;
            }
            state.set(c, told);
            return true;
        }

        boolean port(int c, int port, long told) {
            if (!isCell(c) || port < 0 || port > 3 || told < 0 || told > 1_000_000) {
                return false;
            }
            hours[c][port] = told;
            return true;
        }

        boolean wind(int c, long more) {
            if (!isCell(c) || more < 0 || more > 1_000_000 || cost.get(c) + more > 10_000_000) {
                return false;
            }
            cost.set(c, cost.get(c) + more);
            return true;
        }

        long size(int told) {
            if (told < 0 || told > 24) {
                return -1;
            }
            least = told;
            return cost.size();
        }

        TreeSet<Integer> with(char... states) {
            TreeSet<Integer> cells = new TreeSet<>();
            for (int c = 0; c < cost.size(); c++) {
                for (char s : states) {
                    if (state.get(c) == s) {
                        cells.add(c);
                    }
                }
            }
            return cells;
        }

        static long sum(long[][] rows, Iterable<Integer> cells, int column) {
            long sum = 0;
            for (int c : cells) {
                sum += rows[c][column];
            }
            return sum;
        }

        boolean goalMet(int kind, TreeSet<Integer> choice) {
            return goal[kind] == null || sum(amount, choice, kind) * goal[kind][1]
                >= sum(amount, with('f', 'm', 'b'), kind) * goal[kind][0];
        }

        boolean stands(TreeSet<Integer> choice) {
            if (choice.size() < least || !choice.containsAll(with('m'))) {
                return false;
            }
            for (int c : choice) {
                if (state.get(c) == 'b') {
                    return false;
                }
                for (int other : choice) {
                    if (tooFar[c][other]) {
                        return false;
                    }
                }
            }
            for (int kind = 0; kind < 8; kind++) {
                if (!goalMet(kind, choice)) {
                    return false;
                }
            }
            for (int port = 0; port < 4 && fair != null; port++) {
                if (sum(hours, choice, port) * fair[1] > sum(hours, with('f', 'm', 'b'), port) * fair[0]) {
                    return false;
                }
            }
            return true;
        }

        long borderOf(TreeSet<Integer> choice) {
            long sum = 0;
            for (int in : choice) {
                for (int out = 0; out < cost.size(); out++) {
                    sum += choice.contains(out) ? 0 : border[in][out];
                }
            }
            return sum;
        }

        long costOf(TreeSet<Integer> choice) {
            long sum = weight * borderOf(choice);
            for (int c : choice) {
                sum += cost.get(c);
            }
            return sum;
        }

        /** Whether one choice goes before another that stands too. */
        boolean before(TreeSet<Integer> one, long oneCost, TreeSet<Integer> other, long otherCost) {
            if (oneCost != otherCost) {
                return oneCost < otherCost;
            }
            if (one.size() != other.size()) {
                return one.size() < other.size();
            }
            List<Integer> a = new ArrayList<>(one);
            List<Integer> b = new ArrayList<>(other);
            for (int i = 0; i < a.size(); i++) {
                if (!a.get(i).equals(b.get(i))) {
                    return a.get(i) < b.get(i);
                }
            }
            return false;
        }

        void becomes(TreeSet<Integer> choice) {
            before = latest;
            latest = choice;
            latestCost = choice == null ? -1 : costOf(choice);
        }

        long run(long nodes) {
            clashes = new ArrayList<>();
            for (int kind = 0; kind < 8; kind++) {
                if (!goalMet(kind, with('f', 'm'))) {
                    clashes.add(kind);
                }
            }
            List<Integer> free = new ArrayList<>(with('f'));
            long ways = 1L << free.size();
            if (ways > nodes || ways > 4096) {
                becomes(null);
                bound = 0;
                for (int c : with('m')) {
                    bound += cost.get(c);
                }
                answer = 2;
                return answer;
            }
            TreeSet<Integer> best = null;
            long bestCost = 0;
            for (int way = 0; way < ways; way++) {
                TreeSet<Integer> choice = with('m');
                for (int i = 0; i < free.size(); i++) {
                    if ((way >> i & 1) == 1) {
                        choice.add(free.get(i));
                    }
                }
                long itsCost = costOf(choice);
                if ((best == null || before(choice, itsCost, best, bestCost)) && stands(choice)) {
                    best = choice;
                    bestCost = itsCost;
                }
            }
            becomes(best);
            bound = latestCost;
            answer = best == null ? 1 : 0;
            return answer;
        }

        long drawn() {
            x = x ^ (x << 13);
            x = x ^ (x >>> 7);
            x = x ^ (x << 17);
            return x >>> 1;
        }

        /** Changes the choice, which stands, and answers how many steps were kept. */
        long improving(TreeSet<Integer> choice, int steps) {
            long kept = 0;
            for (int i = 0; i < steps; i++) {
                int c = (int) (drawn() % cost.size());
                TreeSet<Integer> next = exchanged(choice, c);
                if (costOf(next) < costOf(choice) && stands(next)) {
                    choice.clear();
                    choice.addAll(next);
                    kept++;
                }
            }
            return kept;
        }

        static TreeSet<Integer> exchanged(TreeSet<Integer> choice, int c) {
            TreeSet<Integer> next = new TreeSet<>(choice);
            if (!next.remove(c)) {
                next.add(c);
            }
            return next;
        }

        long improve(int steps) {
            if (steps < 1 || steps > 1000 || cost.isEmpty()) {
                return -1;
            }
            TreeSet<Integer> choice = with('f', 'm');
            if (!stands(choice)) {
                becomes(null);
                return -1;
            }
            long kept = improving(choice, steps);
            becomes(choice);
            return kept;
        }

        long often(int c, int seeds) {
            if (!isCell(c) || seeds < 1 || seeds > 20 || !stands(with('f', 'm'))) {
                return -1;
            }
            long kept = x;
            long count = 0;
            for (int seed = 1; seed <= seeds; seed++) {
                x = seed;
                TreeSet<Integer> choice = with('f', 'm');
                improving(choice, 40);
                count += choice.contains(c) ? 1 : 0;
            }
            x = kept;
            return count;
        }

        long zone(int rest, int kind) {
            if (rest < 0 || rest > 3 || kind < 0 || kind > 7 || latest == null) {
                return -1;
            }
            return latest.stream().filter(c -> c % 4 == rest && amount[c][kind] > 0).count();
        }

        long met(int kind, int part) {
            return kind < 0 || kind > 7 ? -1 : fraction(amount, kind, part);
        }

        long loss(int port, int part) {
            return port < 0 || port > 3 ? -1 : fraction(hours, port, part);
        }

        long fraction(long[][] rows, int column, int part) {
            if (latest == null || part < 0 || part > 1) {
                return -1;
            }
            long some = sum(rows, latest, column);
            long all = sum(rows, with('f', 'm', 'b'), column);
            if (some == 0) {
                return part == 0 ? 0 : 1;
            }
            long divisor = java.math.BigInteger.valueOf(some).gcd(java.math.BigInteger.valueOf(all)).longValue();
            return (part == 0 ? some : all) / divisor;
        }

        long year(int c) {
            if (latest == null || !latest.contains(c)) {
                return -1;
            }
            List<Integer> order = new ArrayList<>(latest);
            order.sort((a, b) -> Long.compare(cost.get(a), cost.get(b)));
            return order.indexOf(c) / 2;
        }

        long unlike(int first) {
            if (first < 0 || first > 24) {
                return -1;
            }
            long count = 0;
            for (int c = 0; c < first; c++) {
                boolean now = latest != null && latest.contains(c);
                boolean then = before != null && before.contains(c);
                count += now != then ? 1 : 0;
            }
            return count;
        }

        long tie(int k) {
            List<Integer> ties = new ArrayList<>();
            for (int c = 0; c < cost.size() && latest != null; c++) {
                TreeSet<Integer> next = exchanged(latest, c);
                if (state.get(c) == 'f' && stands(next) && costOf(next) == costOf(latest)) {
                    ties.add(c);
                }
            }
            return kth(ties, k);
        }

        static long kth(List<Integer> list, int k) {
            return k >= 0 && k < list.size() ? list.get(k) : -1;
        }
    }
}
