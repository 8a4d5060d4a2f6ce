/**
 * Areas of the sea chosen for kinds: the least costly choice of cells by exact search, or a better one by
 * drawn moves. Sets of cells are held as bits of an int: bit c is cell c.
 */
public final class AreaGoals {
    public static final int NONE = -1;

    private static final int MOST_CELLS = 24;
    private static final int KINDS = 8;
    private static final int PORTS = 4;
    private static final int ZONES = 4;
    private static final int CELLS_A_YEAR = 2;

    private static final long WHOLE = 720720L;
    private static final long MOST_TOLD_COST = 1000000L;
    private static final long MOST_COST = 10000000L;
    private static final long MOST_HOURS = 1000000L;
    private static final long MOST_AMOUNT_ABOVE = 1000L;
    private static final long MOST_AMOUNT_BELOW = 16L;
    private static final long MOST_SHARE_BELOW = 100L;
    private static final long MOST_BORDER = 1000L;
    private static final long MOST_WEIGHT = 1000L;

    private static final long MOST_WAYS = 4096L;
    private static final int MOST_STEPS = 1000;
    private static final int MOST_SEEDS = 20;
    private static final int STEPS_OF_OFTEN = 40;

    private static final int FOUND = 0;
    private static final int NONE_STANDS = 1;
    private static final int TOO_MANY = 2;

    /** Euclid's steps for two longs are fewer than this. */
    private static final int MOST_DIVISIONS = 100;

    private final Sea sea;
    private final Tally tally;
    private final Draw draw;
    private final Draw trialDraw;
    private final Choice latest;
    private final int[] freeCells;
    private int cellsBefore;
    private int runAnswer;
    private long toldBound;
    private int clashingKinds;

    public AreaGoals(long seed) {
        sea = new Sea();
        tally = new Tally(sea);
        draw = new Draw();
        draw.start(seed);
        trialDraw = new Draw();
        latest = new Choice();
        freeCells = new int[MOST_CELLS];
        runAnswer = NONE;
        toldBound = NONE;
    }

    public int cell(long cost) {
        if (sea.cells >= MOST_CELLS || !within(cost, MOST_TOLD_COST)) {
            return NONE;
        }
        sea.costs[sea.cells] = cost;
        sea.cells++;
        return sea.cells - 1;
    }

    public boolean holds(int cell, int kind, long above, long below) {
        if (!sea.hasCell(cell) || !isKind(kind)) {
            return false;
        }
        if (!within(above, MOST_AMOUNT_ABOVE) || below < 1 || below > MOST_AMOUNT_BELOW) {
            return false;
        }
        sea.putAmount(cell, kind, WHOLE / below * above);
        return true;
    }

    public boolean goal(int kind2, long above2, long below2) {
        if (!isKind(kind2) || !isShare(above2, below2)) {
            return false;
        }
        sea.goalAbove[kind2] = above2;
        sea.goalBelow[kind2] = below2;
        return true;
    }

    public boolean near(int cellA, int cellB, long border) {
        if (!sea.hasPair(cellA, cellB) || !within(border, MOST_BORDER)) {
            return false;
        }
        sea.borders[cellA * MOST_CELLS + cellB] = border;
        sea.borders[cellB * MOST_CELLS + cellA] = border;
        return true;
    }

    public boolean weight(long border2) {
        if (!within(border2, MOST_WEIGHT)) {
            return false;
        }
        sea.borderWeight = border2;
        return true;
    }

    public boolean must(int cell2) {
        if (!sea.hasCell(cell2)) {
            return false;
        }
        sea.needed |= 1 << cell2;
        sea.barred &= ~(1 << cell2);
        return true;
    }

    public boolean bar(int cell3) {
        if (!sea.hasCell(cell3)) {
            return false;
        }
        sea.barred |= 1 << cell3;
        sea.needed &= ~(1 << cell3);
        return true;
    }

    public int zone(int z2, int kind3) {
        if (z2 < 0 || z2 >= ZONES || !isKind(kind3) || !latest.there) {
            return NONE;
        }
        int count = 0;
        for (int c = z2; c < sea.cells; c += ZONES) {
            if (hasBit(latest.cells, c) && sea.amounts[c * KINDS + kind3] > 0) {
                count++;
            }
        }
        return count;
    }

    public int run(long nodes) {
        clashingKinds = findClashes();
        cellsBefore = latest.cells;
        latest.clear();
        long ways = 1L << Integer.bitCount(sea.freeSet());
        if (ways > nodes || ways > MOST_WAYS) {
            runAnswer = TOO_MANY;
            toldBound = sea.costsOf(sea.needed);
        } else {
            search();
            runAnswer = latest.there ? FOUND : NONE_STANDS;
            toldBound = latest.price;
        }
        return runAnswer;
    }

    public boolean chosen(int cell4) {
        return sea.hasCell(cell4) && hasBit(latest.cells, cell4);
    }

    public long cost() {
        return latest.price;
    }

    public long bound() {
        return toldBound;
    }

    public long met(int kind4, int part) {
        if (!isKind(kind4) || !latest.there) {
            return NONE;
        }
        tally.begin(latest.cells);
        return partOf(tally.amounts[kind4], sea.kindTotals[kind4], part);
    }

    public int clash(int k) {
        return placeOfBit(clashingKinds, k);
    }

    public boolean proved() {
        return runAnswer == FOUND || runAnswer == NONE_STANDS;
    }

    public int improve(int steps) {
        if (steps < 1 || steps > MOST_STEPS || sea.cells == 0) {
            return NONE;
        }
        cellsBefore = latest.cells;
        latest.clear();
        int kept = drawnMoves(draw, steps);
        if (kept != NONE) {
            latest.take(tally.cells, tally.price());
        }
        return kept;
    }

    public long often(int cell5, int seeds) {
        if (!sea.hasCell(cell5) || seeds < 1 || seeds > MOST_SEEDS) {
            return NONE;
        }
        long count = 0;
        for (int seed = 1; seed <= seeds; seed++) {
            trialDraw.start(seed);
            if (drawnMoves(trialDraw, STEPS_OF_OFTEN) == NONE) {
                return NONE;
            }
            if (hasBit(tally.cells, cell5)) {
                count++;
            }
        }
        return count;
    }

    public boolean port(int cell6, int port2, long hours) {
        if (!sea.hasCell(cell6) || !isPort(port2) || !within(hours, MOST_HOURS)) {
            return false;
        }
        sea.putHours(cell6, port2, hours);
        return true;
    }

    public long loss(int port3, int part) {
        if (!isPort(port3) || !latest.there) {
            return NONE;
        }
        tally.begin(latest.cells);
        return partOf(tally.hours[port3], sea.portTotals[port3], part);
    }

    public boolean fair(long above3, long below3) {
        if (!isShare(above3, below3)) {
            return false;
        }
        sea.fairAbove = above3;
        sea.fairBelow = below3;
        return true;
    }

    public long border() {
        if (!latest.there) {
            return NONE;
        }
        tally.begin(latest.cells);
        return tally.borderLength;
    }

    public int size(int least) {
        if (least < 0 || least > MOST_CELLS) {
            return NONE;
        }
        sea.fewest = least;
        return sea.cells;
    }

    public int year(int cell7) {
        if (!sea.hasCell(cell7) || !hasBit(latest.cells, cell7)) {
            return NONE;
        }
        int earlier = 0;
        for (int c = 0; c < sea.cells; c++) {
            if (hasBit(latest.cells, c) && sea.comesBefore(c, cell7)) {
                earlier++;
            }
        }
        return earlier / CELLS_A_YEAR;
    }

    public boolean wind(int cell8, long cost2) {
        if (!sea.hasCell(cell8) || !within(cost2, MOST_TOLD_COST)) {
            return false;
        }
        if (sea.costs[cell8] + cost2 > MOST_COST) {
            return false;
        }
        sea.costs[cell8] += cost2;
        return true;
    }

    public int unlike(int cells) {
        if (cells < 0 || cells > MOST_CELLS) {
            return NONE;
        }
        int first = (1 << cells) - 1;
        return Integer.bitCount((latest.cells ^ cellsBefore) & first);
    }

    public boolean far(int cellC, int cellD, int most) {
        if (!sea.hasPair(cellC, cellD)) {
            return false;
        }
        if (most < 0) {
            sea.tooFar[cellC] |= 1 << cellD;
            sea.tooFar[cellD] |= 1 << cellC;
        } else {
            sea.tooFar[cellC] &= ~(1 << cellD);
            sea.tooFar[cellD] &= ~(1 << cellC);
        }
        return true;
    }

    public int tie(int k2) {
        return latest.there ? placeOfBit(findExchangeable(), k2) : NONE;
    }

    private static boolean within(long value, long most) {
        return value >= 0 && value <= most;
    }

    private static boolean isShare(long above, long below) {
        return above >= 0 && above <= below && below >= 1 && below <= MOST_SHARE_BELOW;
    }

    private static boolean isKind(int kind) {
        return kind >= 0 && kind < KINDS;
    }

    private static boolean isPort(int port) {
        return port >= 0 && port < PORTS;
    }

    private static boolean hasBit(int set, int place) {
        return (set >>> place & 1) != 0;
    }

    /** The place of the k-th bit (from 0 on) of a set; NONE when it has no so many. */
    private static int placeOfBit(int set, int k) {
        int seen = 0;
        for (int place = 0; place < MOST_CELLS; place++) {
            if (hasBit(set, place)) {
                if (seen == k) {
                    return place;
                }
                seen++;
            }
        }
        return NONE;
    }

    /** A part of the fraction some / all in lowest terms. */
    private static long partOf(long some, long all, int part) {
        if (part != 0 && part != 1) {
            return NONE;
        }
        if (some == 0 || all == 0) {
            return part;
        }
        long divisor = commonDivisor(some, all);
        return (part == 0 ? some : all) / divisor;
    }

    /** The greatest common divisor of two numbers above 0, so never 0 itself. */
    private static long commonDivisor(long a, long b) {
        long greater = a;
        long lesser = b;
        for (int i = 0; i < MOST_DIVISIONS && lesser != 0; i++) {
            long rest = greater % lesser;
            greater = lesser;
            lesser = rest;
        }
        return greater == 0 ? 1 : greater;
    }

    /** The kinds whose goal not even all cells that are not barred meet. */
    private int findClashes() {
        tally.begin(sea.openSet());
        int clashes = 0;
        for (int kind = 0; kind < KINDS; kind++) {
            if (!tally.meetsGoal(kind)) {
                clashes |= 1 << kind;
            }
        }
        return clashes;
    }

    /** Leaves THE CHOICE in latest, which must be clear; at most 2 to the 12 choices are looked at. */
    private void search() {
        int count = listFreeCells();
        int ways = 1 << count;
        tally.begin(sea.needed);
        considerTally();
        for (int i = 1; i < ways; i++) {
            // Gray's order: each choice differs from the one before in one cell, so the tally is not made anew.
            int place = Integer.bitCount((i & -i) - 1);
            if (place < count) {
                tally.exchange(freeCells[place]);
                considerTally();
            }
        }
    }

    private void considerTally() {
        long price = tally.price();
        if (latest.isBeatenBy(tally.cells, price) && tally.stands()) {
            latest.take(tally.cells, price);
        }
    }

    private int listFreeCells() {
        int free = sea.freeSet();
        int count = 0;
        for (int c = 0; c < sea.cells; c++) {
            if (hasBit(free, c)) {
                freeCells[count] = c;
                count++;
            }
        }
        return count;
    }

    /** IMPROVING: leaves its choice in the tally and answers the steps kept, or NONE when there is no choice. */
    private int drawnMoves(Draw source, int steps) {
        tally.begin(sea.openSet());
        if (sea.cells == 0 || !tally.stands()) {
            return NONE;
        }
        int kept = 0;
        long price = tally.price();
        for (int i = 0; i < steps; i++) {
            int c = (int) (source.next() % sea.cells);
            tally.exchange(c);
            if (tally.price() < price && tally.stands()) {
                price = tally.price();
                kept++;
            } else {
                tally.exchange(c);
            }
        }
        return kept;
    }

    /** The free cells that can go out of the latest choice, or into it, at the same cost. */
    private int findExchangeable() {
        int free = sea.freeSet();
        int exchangeable = 0;
        tally.begin(latest.cells);
        long price = tally.price();
        for (int c = 0; c < sea.cells; c++) {
            if (hasBit(free, c)) {
                tally.exchange(c);
                if (tally.price() == price && tally.stands()) {
                    exchangeable |= 1 << c;
                }
                tally.exchange(c);
            }
        }
        return exchangeable;
    }

    /** All that has been told. */
    private static final class Sea {
        private final long[] costs;
        private final long[] amounts;
        private final long[] hours;
        private final long[] borders;
        private final int[] tooFar;
        private final long[] kindTotals;
        private final long[] portTotals;
        private final long[] goalAbove;
        private final long[] goalBelow;
        private long fairAbove;
        private long fairBelow;
        private long borderWeight;
        private int cells;
        private int needed;
        private int barred;
        private int fewest;

        private Sea() {
            costs = new long[MOST_CELLS];
            amounts = new long[MOST_CELLS * KINDS];
            hours = new long[MOST_CELLS * PORTS];
            borders = new long[MOST_CELLS * MOST_CELLS];
            tooFar = new int[MOST_CELLS];
            kindTotals = new long[KINDS];
            portTotals = new long[PORTS];
            // A goal of 0 / 1 and a fair share of 1 / 1 hold for every choice, so they stand for none told.
            goalAbove = new long[KINDS];
            goalBelow = new long[KINDS];
            for (int kind = 0; kind < KINDS; kind++) {
                goalBelow[kind] = 1;
            }
            fairAbove = 1;
            fairBelow = 1;
        }

        private boolean hasCell(int c) {
            return c >= 0 && c < cells;
        }

        private boolean hasPair(int a, int b) {
            return hasCell(a) && hasCell(b) && a != b;
        }

        private void putAmount(int c, int kind, long amount) {
            int place = c * KINDS + kind;
            kindTotals[kind] += amount - amounts[place];
            amounts[place] = amount;
        }

        private void putHours(int c, int port, long told) {
            int place = c * PORTS + port;
            portTotals[port] += told - hours[place];
            hours[place] = told;
        }

        private int openSet() {
            return ((1 << cells) - 1) & ~barred;
        }

        private int freeSet() {
            return openSet() & ~needed;
        }

        private long costsOf(int set) {
            long sum = 0;
            for (int c = 0; c < cells; c++) {
                if (hasBit(set, c)) {
                    sum += costs[c];
                }
            }
            return sum;
        }

        private boolean comesBefore(int a, int b) {
            return costs[a] < costs[b] || (costs[a] == costs[b] && a < b);
        }
    }

    /** A set of cells with its sums, which follow each exchange of one cell. */
    private static final class Tally {
        private final Sea sea;
        private final long[] amounts;
        private final long[] hours;
        private int cells;
        private int farPairs;
        private long cellCosts;
        private long borderLength;

        private Tally(Sea told) {
            sea = told;
            amounts = new long[KINDS];
            hours = new long[PORTS];
        }

        /** Made anew from what is told now: sums kept from an earlier call could be out of date. */
        private void begin(int set) {
            cells = 0;
            farPairs = 0;
            cellCosts = 0;
            borderLength = 0;
            for (int kind = 0; kind < KINDS; kind++) {
                amounts[kind] = 0;
            }
            for (int port = 0; port < PORTS; port++) {
                hours[port] = 0;
            }
            for (int c = 0; c < sea.cells; c++) {
                if (hasBit(set, c)) {
                    exchange(c);
                }
            }
        }

        /** Takes a cell that there is in, or out if it is in. */
        private void exchange(int c) {
            int sign = hasBit(cells, c) ? -1 : 1;
            int others = cells & ~(1 << c);
            farPairs += sign * Integer.bitCount(sea.tooFar[c] & others);
            cellCosts += sign * sea.costs[c];
            borderLength += sign * borderGainedBy(c, others);
            for (int kind = 0; kind < KINDS; kind++) {
                amounts[kind] += sign * sea.amounts[c * KINDS + kind];
            }
            for (int port = 0; port < PORTS; port++) {
                hours[port] += sign * sea.hours[c * PORTS + port];
            }
            cells ^= 1 << c;
        }

        /** A border with a cell outside is won, one with a cell inside is no longer a border of the set. */
        private long borderGainedBy(int c, int others) {
            long gained = 0;
            for (int b = 0; b < sea.cells; b++) {
                long length = sea.borders[c * MOST_CELLS + b];
                gained += hasBit(others, b) ? -length : length;
            }
            return gained;
        }

        private long price() {
            return cellCosts + sea.borderWeight * borderLength;
        }

        private boolean stands() {
            return (sea.needed & ~cells) == 0
                && (sea.barred & cells) == 0
                && Integer.bitCount(cells) >= sea.fewest
                && farPairs == 0
                && meetsGoals()
                && isFair();
        }

        private boolean meetsGoals() {
            for (int kind = 0; kind < KINDS; kind++) {
                if (!meetsGoal(kind)) {
                    return false;
                }
            }
            return true;
        }

        private boolean meetsGoal(int kind) {
            return amounts[kind] * sea.goalBelow[kind] >= sea.kindTotals[kind] * sea.goalAbove[kind];
        }

        private boolean isFair() {
            for (int port = 0; port < PORTS; port++) {
                if (hours[port] * sea.fairBelow > sea.portTotals[port] * sea.fairAbove) {
                    return false;
                }
            }
            return true;
        }
    }

    /** A choice as it was found, or none: then it has no cells and its price is NONE. */
    private static final class Choice {
        private boolean there;
        private int cells;
        private long price;

        private Choice() {
            price = NONE;
        }

        private void clear() {
            there = false;
            cells = 0;
            price = NONE;
        }

        private void take(int set, long cost) {
            there = true;
            cells = set;
            price = cost;
        }

        /** Whether a set goes before this one: less cost, then fewer cells, then the lesser cell where they differ. */
        private boolean isBeatenBy(int set, long cost) {
            if (!there) {
                return true;
            }
            if (cost != price) {
                return cost < price;
            }
            int more = Integer.bitCount(set) - Integer.bitCount(cells);
            int differing = set ^ cells;
            return more != 0 ? more < 0 : (differing & -differing & set) != 0;
        }
    }

    /** THE DRAW. */
    private static final class Draw {
        private static final long SEED_FOR_0 = 88172645463325252L;

        private long x;

        private void start(long seed) {
            x = seed == 0 ? SEED_FOR_0 : seed;
        }

        private long next() {
            x ^= x << 13;
            x ^= x >>> 7;
            x ^= x << 17;
            return x >>> 1;
        }
    }
}
