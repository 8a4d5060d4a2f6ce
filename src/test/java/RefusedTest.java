import java.util.ArrayList;
import java.util.List;

/**
 * Each range that a promise names, at its least and greatest value and beyond them, in many situations; and for
 * each refused call that it changed nothing: a twin that was not called goes on to answer the same to everything.
 */
public final class RefusedTest {
    private static final int NONE = -1;
    private static final int LITTLE = 5;
    private static int wrong = 0;

    private interface Call {
        long on(AreaGoals x);
    }

    private interface CallWith {
        long on(AreaGoals x, long value);
    }

    private interface Maker {
        AreaGoals make();
    }

    private interface Probe {
        void look(AreaGoals x, int cells, List<Long> seen);
    }

    private record Named(String name, long refused, Call call) {
    }

    private record Situation(String name, int cells, boolean hasChoice, Maker maker) {
    }

    private static long bit(boolean answer) {
        return answer ? 1 : 0;
    }

    public static void main(String[] args) {
        List<Situation> situations = situations();
        for (Situation situation : situations) {
            ranges(situation);
            for (Named call : wrongInTwoWays(situation)) {
                dueRefused(situation, call);
            }
            for (Named call : asking(situation)) {
                dueUnchanged(situation, call);
            }
        }
        whatIsTakenIsSeen(situations.get(3));
        System.out.println(wrong == 0 ? "what is refused changes nothing" : wrong + " things are not as due");
        if (wrong != 0) {
            System.exit(1);
        }
    }

    // ---- situations ----

    /** All sorts of things told, no two alike, so that a value put in the wrong place would be seen. */
    private static AreaGoals told() {
        AreaGoals x = new AreaGoals(5);
        for (int c = 0; c < LITTLE; c++) {
            x.cell(10 + 7 * c);
            x.holds(c, 0, 3 + c, 7);
            x.holds(c, 7, 5 + 2 * c, 11);
            x.port(c, 0, 100 + 10 * c);
            x.port(c, 3, 30 + c * c);
        }
        x.near(0, 1, 3);
        x.near(1, 2, 4);
        x.near(0, 4, 6);
        x.near(3, 4, 9);
        x.weight(2);
        x.far(1, 3, -1);
        x.fair(4, 5);
        x.goal(0, 1, 4);
        x.goal(7, 1, 5);
        x.size(2);
        x.bar(3);
        return x;
    }

    private static AreaGoals withChoice() {
        AreaGoals x = told();
        x.run(16);
        return x;
    }

    private static AreaGoals withTwoChoices() {
        AreaGoals x = withChoice();
        x.must(2);
        x.run(8);
        return x;
    }

    private static AreaGoals behind(int answer) {
        AreaGoals x = withTwoChoices();
        if (answer == 1) {
            x.goal(0, 1, 1);
            x.run(8);
            x.goal(0, 1, 4);
        } else {
            x.run(7);
        }
        return x;
    }

    private static AreaGoals improved() {
        AreaGoals x = withTwoChoices();
        x.fair(1, 1);
        x.improve(3);
        return x;
    }

    private static AreaGoals full() {
        AreaGoals x = new AreaGoals(-9);
        for (int c = 0; c < 24; c++) {
            x.cell(c % 5 * 10);
            x.holds(c, c % 2 * 7, 1 + c, 3);
            x.port(c, c % 2 * 3, 50 + c);
        }
        x.near(0, 1, 3);
        x.near(22, 23, 8);
        x.weight(3);
        x.goal(0, 1, 3);
        x.goal(7, 1, 2);
        x.fair(1, 1);
        x.size(3);
        x.must(23);
        x.improve(60);
        return x;
    }

    private static List<Situation> situations() {
        List<Situation> all = new ArrayList<>();
        all.add(new Situation("a new object", 0, false, () -> new AreaGoals(5)));
        all.add(new Situation("a choice without cells", 0, true, () -> {
            AreaGoals x = new AreaGoals(5);
            x.run(1);
            return x;
        }));
        all.add(new Situation("before a choice", LITTLE, false, RefusedTest::told));
        all.add(new Situation("two choices", LITTLE, true, RefusedTest::withTwoChoices));
        all.add(new Situation("behind 1", LITTLE, false, () -> behind(1)));
        all.add(new Situation("behind 2", LITTLE, false, () -> behind(2)));
        all.add(new Situation("behind improve", LITTLE, true, RefusedTest::improved));
        all.add(new Situation("24 cells", 24, true, RefusedTest::full));
        return all;
    }

    // ---- what a later call shows ----

    private static void askAll(AreaGoals x, int cells, List<Long> seen) {
        for (int c = 0; c < cells; c++) {
            seen.add(bit(x.chosen(c)));
            seen.add((long) x.year(c));
            seen.add((long) x.tie(c));
            seen.add((long) x.unlike(c + 1));
        }
        for (int kind = 0; kind < 8; kind++) {
            seen.add(x.met(kind, 0));
            seen.add(x.met(kind, 1));
            seen.add((long) x.clash(kind));
            seen.add((long) x.zone(kind % 4, kind / 4 * 7));
        }
        for (int port = 0; port < 4; port++) {
            seen.add(x.loss(port, 0));
            seen.add(x.loss(port, 1));
        }
        seen.add(x.cost());
        seen.add(x.bound());
        seen.add(x.border());
        seen.add(bit(x.proved()));
    }

    private static void askAsItIs(AreaGoals x, int cells, List<Long> seen) {
        askAll(x, cells, seen);
        seen.add((long) x.cell(1));
    }

    private static void askImproved(AreaGoals x, int cells, List<Long> seen) {
        seen.add((long) x.improve(4));
        askAll(x, cells, seen);
    }

    private static void askFound(AreaGoals x, int cells, List<Long> seen) {
        seen.add((long) x.run(4096));
        askAll(x, cells, seen);
    }

    private static void askWhatIsFree(AreaGoals x, int cells, List<Long> seen) {
        seen.add((long) x.run(0));
        seen.add(x.bound());
        for (long nodes = 1; nodes <= 4096; nodes *= 2) {
            seen.add((long) x.run(nodes));
        }
        for (int c = 0; c < cells; c++) {
            seen.add(x.often(c, 2));
        }
    }

    private static void allowAll(AreaGoals x, int cells) {
        x.size(0);
        x.fair(1, 1);
        for (int kind = 0; kind < 8; kind++) {
            x.goal(kind, 0, 1);
        }
        for (int c = 0; c < cells; c++) {
            x.bar(c);
        }
    }

    private static void askEachAlone(AreaGoals x, int cells, List<Long> seen) {
        allowAll(x, cells);
        for (int c = 0; c < cells; c++) {
            x.must(c);
            x.run(1);
            seen.add(x.cost());
            seen.add(x.border());
            for (int i = 0; i < 4; i++) {
                seen.add(x.met(i / 2 * 7, i % 2));
                seen.add(x.loss(i / 2 * 3, i % 2));
            }
            x.bar(c);
        }
    }

    private static void askPairs(AreaGoals x, int cells, List<Long> seen) {
        allowAll(x, cells);
        for (int a = 0; a < cells; a++) {
            int b = (a + (cells > LITTLE ? 1 : 2)) % cells;
            x.must(a);
            x.must(b);
            seen.add((long) x.run(1));
            seen.add(x.border());
            x.bar(a);
            x.bar((a + 1) % cells);
            seen.add((long) x.run(1));
            x.bar(b);
        }
    }

    /** One more cell each time: where it begins to stand shows LEAST, where it ends to stand the fair share. */
    private static void askOneMore(AreaGoals x, int cells, List<Long> seen) {
        for (int kind = 0; kind < 8; kind++) {
            x.goal(kind, 0, 1);
        }
        for (int c = 0; c < cells; c++) {
            x.bar(c);
            x.far(c, (c + 2) % cells, 0);
        }
        seen.add((long) x.run(1));
        for (int c = 0; c < cells; c++) {
            x.must(c);
            seen.add((long) x.run(1));
        }
    }

    private static void askGoals(AreaGoals x, int cells, List<Long> seen) {
        for (int c = 0; c < cells; c++) {
            x.bar(c);
            seen.add((long) x.run(0));
            for (int k = 0; k < 4; k++) {
                seen.add((long) x.clash(k));
            }
        }
    }

    private static final Probe[] PROBES = {RefusedTest::askAsItIs, RefusedTest::askImproved, RefusedTest::askFound,
        RefusedTest::askWhatIsFree, RefusedTest::askEachAlone, RefusedTest::askPairs, RefusedTest::askOneMore,
        RefusedTest::askGoals};

    private static boolean isSeen(Situation situation, Call call) {
        for (Probe probe : PROBES) {
            AreaGoals alone = situation.maker.make();
            AreaGoals called = situation.maker.make();
            call.on(called);
            List<Long> due = new ArrayList<>();
            List<Long> got = new ArrayList<>();
            probe.look(alone, situation.cells, due);
            probe.look(called, situation.cells, got);
            if (!due.equals(got)) {
                return true;
            }
        }
        return false;
    }

    private static void dueUnchanged(Situation situation, Named call) {
        if (isSeen(situation, call.call)) {
            wrong++;
            System.out.println(situation.name + ": " + call.name + " changed something");
        }
    }

    private static void dueRefused(Situation situation, Named call) {
        long got = call.call.on(situation.maker.make());
        if (got != call.refused) {
            wrong++;
            System.out.println(situation.name + ": " + call.name + " answered " + got + ", due is " + call.refused);
        }
        dueUnchanged(situation, call);
    }

    // ---- ranges ----

    private static void ranges(Situation s) {
        longRange(s, "cell(v)", NONE, 0, s.cells == 24 ? -1 : 1000000, (x, v) -> x.cell(v));
        longRange(s, "weight(v)", 0, 0, 1000, (x, v) -> bit(x.weight(v)));
        longRange(s, "fair(v, 100)", 0, 0, 100, (x, v) -> bit(x.fair(v, 100)));
        longRange(s, "fair(v, 1)", 0, 0, 1, (x, v) -> bit(x.fair(v, 1)));
        longRange(s, "fair(0, v)", 0, 1, 100, (x, v) -> bit(x.fair(0, v)));
        longRange(s, "fair(1, v)", 0, 1, 100, (x, v) -> bit(x.fair(1, v)));
        longRange(s, "fair(v, v)", 0, 1, 100, (x, v) -> bit(x.fair(v, v)));
        longRange(s, "goal(0, v, 100)", 0, 0, 100, (x, v) -> bit(x.goal(0, v, 100)));
        longRange(s, "goal(0, v, 1)", 0, 0, 1, (x, v) -> bit(x.goal(0, v, 1)));
        longRange(s, "goal(7, 0, v)", 0, 1, 100, (x, v) -> bit(x.goal(7, 0, v)));
        longRange(s, "goal(7, 1, v)", 0, 1, 100, (x, v) -> bit(x.goal(7, 1, v)));
        longRange(s, "goal(7, v, v)", 0, 1, 100, (x, v) -> bit(x.goal(7, v, v)));
        intRange(s, "goal(v, 1, 2)", 0, 0, 7, (x, v) -> bit(x.goal((int) v, 1, 2)));
        intRange(s, "size(v)", NONE, 0, 24, (x, v) -> x.size((int) v));
        intRange(s, "unlike(v)", NONE, 0, 24, (x, v) -> x.unlike((int) v));
        intRange(s, "improve(v)", NONE, 1, s.cells > 0 ? 1000 : 0, (x, v) -> x.improve((int) v));
        rangesOfCells(s);
        if (s.cells > 0) {
            rangesInCells(s);
        }
        rangesOfAnswers(s);
    }

    private static void rangesOfCells(Situation s) {
        int last = s.cells - 1;
        intRange(s, "holds(v, 7, 1, 1)", 0, 0, last, (x, v) -> bit(x.holds((int) v, 7, 1, 1)));
        intRange(s, "holds(v, 0, 1, 1)", 0, 0, last, (x, v) -> bit(x.holds((int) v, 0, 1, 1)));
        intRange(s, "must(v)", 0, 0, last, (x, v) -> bit(x.must((int) v)));
        intRange(s, "bar(v)", 0, 0, last, (x, v) -> bit(x.bar((int) v)));
        intRange(s, "port(v, 3, 1)", 0, 0, last, (x, v) -> bit(x.port((int) v, 3, 1)));
        intRange(s, "wind(v, 1)", 0, 0, last, (x, v) -> bit(x.wind((int) v, 1)));
        intRange(s, "near(v, 1, 5)", 0, 0, last, (x, v) -> bit(x.near((int) v, v == 1 ? 0 : 1, 5)));
        intRange(s, "near(1, v, 5)", 0, 0, last, (x, v) -> bit(x.near(v == 1 ? 0 : 1, (int) v, 5)));
        intRange(s, "far(v, 1, -1)", 0, 0, last, (x, v) -> bit(x.far((int) v, v == 1 ? 0 : 1, -1)));
        intRange(s, "far(1, v, 0)", 0, 0, last, (x, v) -> bit(x.far(v == 1 ? 0 : 1, (int) v, 0)));
        intRange(s, "near(v, v, 1)", 0, 0, -1, (x, v) -> bit(x.near((int) v, (int) v, 1)));
        intRange(s, "far(v, v, -1)", 0, 0, -1, (x, v) -> bit(x.far((int) v, (int) v, -1)));
        intRange(s, "far(v, v, 0)", 0, 0, -1, (x, v) -> bit(x.far((int) v, (int) v, 0)));
    }

    private static void rangesInCells(Situation s) {
        int last = s.cells - 1;
        intRange(s, "holds(0, v, 1, 1)", 0, 0, 7, (x, v) -> bit(x.holds(0, (int) v, 1, 1)));
        intRange(s, "holds(last, v, 1, 1)", 0, 0, 7, (x, v) -> bit(x.holds(last, (int) v, 1, 1)));
        longRange(s, "holds(0, 0, v, 16)", 0, 0, 1000, (x, v) -> bit(x.holds(0, 0, v, 16)));
        longRange(s, "holds(last, 7, 1, v)", 0, 1, 16, (x, v) -> bit(x.holds(last, 7, 1, v)));
        longRange(s, "holds(last, 7, 0, v)", 0, 1, 16, (x, v) -> bit(x.holds(last, 7, 0, v)));
        longRange(s, "near(0, 1, v)", 0, 0, 1000, (x, v) -> bit(x.near(0, 1, v)));
        longRange(s, "near(last, 0, v)", 0, 0, 1000, (x, v) -> bit(x.near(last, 0, v)));
        intRange(s, "port(0, v, 1)", 0, 0, 3, (x, v) -> bit(x.port(0, (int) v, 1)));
        intRange(s, "port(last, v, 1)", 0, 0, 3, (x, v) -> bit(x.port(last, (int) v, 1)));
        longRange(s, "port(0, 0, v)", 0, 0, 1000000, (x, v) -> bit(x.port(0, 0, v)));
        longRange(s, "wind(last, v)", 0, 0, 1000000, (x, v) -> bit(x.wind(last, v)));
    }

    /** Without a choice all that tell of one answer NONE to everything. */
    private static void rangesOfAnswers(Situation s) {
        int has = s.hasChoice ? 0 : -1000;
        intRange(s, "zone(v, 0)", NONE, 0, has + 3, (x, v) -> x.zone((int) v, 0));
        intRange(s, "zone(0, v)", NONE, 0, has + 7, (x, v) -> x.zone(0, (int) v));
        intRange(s, "met(v, 1)", NONE, 0, has + 7, (x, v) -> x.met((int) v, 1));
        intRange(s, "met(0, v)", NONE, 0, has + 1, (x, v) -> x.met(0, (int) v));
        intRange(s, "met(5, v)", NONE, 0, has + 1, (x, v) -> x.met(5, (int) v));
        intRange(s, "loss(v, 1)", NONE, 0, has + 3, (x, v) -> x.loss((int) v, 1));
        intRange(s, "loss(0, v)", NONE, 0, has + 1, (x, v) -> x.loss(0, (int) v));
        intRange(s, "loss(1, v)", NONE, 0, has + 1, (x, v) -> x.loss(1, (int) v));
        beyondInts(s, "chosen(v)", 0, 0, s.cells - 1, (x, v) -> bit(x.chosen((int) v)));
        beyondInts(s, "year(v)", NONE, 0, s.cells - 1, (x, v) -> x.year((int) v));
        beyondInts(s, "clash(v)", NONE, 0, 7, (x, v) -> x.clash((int) v));
        beyondInts(s, "tie(v)", NONE, 0, s.cells - 1, (x, v) -> x.tie((int) v));
        intRange(s, "often(v, 1)", NONE, 0, s.cells - 1, (x, v) -> x.often((int) v, 1));
        intRange(s, "often(0, v)", NONE, 1, s.cells > 0 ? 20 : 0, (x, v) -> x.often(0, (int) v));
    }

    /** Numbers whose lowest bits are those of good ones would pass where an int, or a shift, cuts them off. */
    private static void longRange(Situation s, String name, long refused, long least, long most, CallWith call) {
        long[] tried = {least - 1, most + 1, Long.MIN_VALUE, Long.MAX_VALUE, Long.MIN_VALUE + 1, (1L << 32) + 1,
            1L << 32, -(1L << 32), 1L << 63 | 1, (1L << 62) + 1};
        beyond(s, name, refused, least, most, tried, call);
        ends(s, name, refused, least, most, call);
    }

    private static void intRange(Situation s, String name, long refused, long least, long most, CallWith call) {
        beyondInts(s, name, refused, least, most, call);
        ends(s, name, refused, least, most, call);
    }

    private static void beyondInts(Situation s, String name, long refused, long least, long most, CallWith call) {
        long[] tried = {least - 1, most + 1, Integer.MIN_VALUE, Integer.MAX_VALUE, Integer.MIN_VALUE + 1, -32, -31, -8,
            -4, -2, 1001, 1024, 32, 33, 256, 257, 1 << 16, (1 << 24) + 1, 1 << 30};
        beyond(s, name, refused, least, most, tried, call);
    }

    private static void beyond(Situation s, String name, long refused, long least, long most, long[] tried,
        CallWith call) {
        for (long value : tried) {
            if (value < least || value > most) {
                dueRefused(s, new Named(name + " of " + value, refused, x -> call.on(x, value)));
            }
        }
    }

    /** A range without any value has no ends. */
    private static void ends(Situation s, String name, long refused, long least, long most, CallWith call) {
        if (least <= most) {
            dueTaken(s, name, refused, least, call);
            dueTaken(s, name, refused, most, call);
        }
    }

    private static void dueTaken(Situation s, String name, long refused, long value, CallWith call) {
        if (call.on(s.maker.make(), value) == refused) {
            wrong++;
            System.out.println(s.name + ": " + name + " of " + value + " was refused");
        }
    }

    // ---- more that is refused, and what only asks ----

    private static List<Named> wrongInTwoWays(Situation s) {
        int no = s.cells;
        List<Named> calls = new ArrayList<>();
        calls.add(new Named("holds(no, 8, 1001, 17)", 0, x -> bit(x.holds(no, 8, 1001, 17))));
        calls.add(new Named("holds(-1, -1, -1, 0)", 0, x -> bit(x.holds(-1, -1, -1, 0))));
        calls.add(new Named("holds(no, 0, 1, 0)", 0, x -> bit(x.holds(no, 0, 1, 0))));
        calls.add(new Named("holds(0, 8, 1, 0)", 0, x -> bit(x.holds(0, 8, 1, 0))));
        calls.add(new Named("goal(8, 2, 1)", 0, x -> bit(x.goal(8, 2, 1))));
        calls.add(new Named("goal(-1, 0, 0)", 0, x -> bit(x.goal(-1, 0, 0))));
        calls.add(new Named("goal(0, -2, -1)", 0, x -> bit(x.goal(0, -2, -1))));
        calls.add(new Named("near(no, no, 1001)", 0, x -> bit(x.near(no, no, 1001))));
        calls.add(new Named("near(-1, no, -1)", 0, x -> bit(x.near(-1, no, -1))));
        calls.add(new Named("near(last, last, 1)", 0, x -> bit(x.near(no - 1, no - 1, 1))));
        calls.add(new Named("far(last, last, -1)", 0, x -> bit(x.far(no - 1, no - 1, -1))));
        calls.add(new Named("zone(4, 8)", NONE, x -> x.zone(4, 8)));
        calls.add(new Named("met(8, 2)", NONE, x -> x.met(8, 2)));
        calls.add(new Named("loss(4, 2)", NONE, x -> x.loss(4, 2)));
        calls.add(new Named("often(no, 0)", NONE, x -> x.often(no, 0)));
        calls.add(new Named("often(-1, 21)", NONE, x -> x.often(-1, 21)));
        calls.add(new Named("port(no, 4, -1)", 0, x -> bit(x.port(no, 4, -1))));
        calls.add(new Named("port(0, -1, 1000001)", 0, x -> bit(x.port(0, -1, 1000001))));
        calls.add(new Named("fair(-1, 0)", 0, x -> bit(x.fair(-1, 0))));
        calls.add(new Named("fair(102, 101)", 0, x -> bit(x.fair(102, 101))));
        calls.add(new Named("wind(no, -1)", 0, x -> bit(x.wind(no, -1))));
        calls.add(new Named("far(no, no, 0)", 0, x -> bit(x.far(no, no, 0))));
        calls.add(new Named("far(-1, -1, -1)", 0, x -> bit(x.far(-1, -1, -1))));
        return calls;
    }

    private static List<Named> asking(Situation s) {
        List<Named> calls = new ArrayList<>();
        for (int i = 0; i < Math.max(1, s.cells); i++) {
            int c = i;
            calls.add(new Named("chosen", 0, x -> bit(x.chosen(c))));
            calls.add(new Named("year", 0, x -> x.year(c)));
            calls.add(new Named("tie", 0, x -> x.tie(c)));
            calls.add(new Named("unlike", 0, x -> x.unlike(c)));
            calls.add(new Named("often", 0, x -> x.often(c, 1 + c % 20)));
        }
        calls.add(new Named("often(0, 20)", 0, x -> x.often(0, 20)));
        calls.add(new Named("zone", 0, x -> x.zone(0, 0)));
        calls.add(new Named("cost", 0, AreaGoals::cost));
        calls.add(new Named("bound", 0, AreaGoals::bound));
        calls.add(new Named("border", 0, AreaGoals::border));
        calls.add(new Named("proved", 0, x -> bit(x.proved())));
        calls.add(new Named("met", 0, x -> x.met(0, 1)));
        calls.add(new Named("loss", 0, x -> x.loss(0, 1)));
        calls.add(new Named("clash", 0, x -> x.clash(0)));
        return calls;
    }

    /** Were this not so, the twins above would tell nothing. */
    private static void whatIsTakenIsSeen(Situation s) {
        List<Named> calls = new ArrayList<>();
        calls.add(new Named("cell", 0, x -> x.cell(0)));
        for (int c = 0; c < LITTLE; c++) {
            int cell = c;
            int next = (c + 2) % LITTLE;
            calls.add(new Named("holds a little more", 0, x -> bit(x.holds(cell, 7, 1, 16))));
            calls.add(new Named("holds none", 0, x -> bit(x.holds(cell, 0, 0, 1))));
            calls.add(new Named("near " + c, 0, x -> bit(x.near(cell, next, 1))));
            calls.add(new Named("port " + c, 0, x -> bit(x.port(cell, 3, 1))));
            calls.add(new Named("wind " + c, 0, x -> bit(x.wind(cell, 1))));
            calls.add(new Named("far " + c, 0, x -> bit(x.far(cell, next, cell == 1 ? 0 : -1))));
            if (c != 2) {
                calls.add(new Named("must " + c, 0, x -> bit(x.must(cell))));
            }
            if (c != 3) {
                calls.add(new Named("bar " + c, 0, x -> bit(x.bar(cell))));
            }
        }
        calls.add(new Named("goal of 0", 0, x -> bit(x.goal(0, 0, 1))));
        calls.add(new Named("goal of 1", 0, x -> bit(x.goal(7, 1, 1))));
        calls.add(new Named("weight", 0, x -> bit(x.weight(3))));
        calls.add(new Named("fair of 0", 0, x -> bit(x.fair(0, 1))));
        calls.add(new Named("fair of 1", 0, x -> bit(x.fair(1, 1))));
        calls.add(new Named("size 1", 0, x -> x.size(1)));
        calls.add(new Named("size 3", 0, x -> x.size(3)));
        calls.add(new Named("run 0", 0, x -> x.run(0)));
        calls.add(new Named("run again", 0, x -> x.run(8)));
        calls.add(new Named("improve", 0, x -> x.improve(1)));
        for (Named call : calls) {
            if (!isSeen(s, call.call)) {
                wrong++;
                System.out.println(s.name + ": no later call shows " + call.name);
            }
        }
    }
}
