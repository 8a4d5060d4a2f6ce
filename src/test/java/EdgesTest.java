/**
 * The sentences of the document that name a boundary case, each by hand: first those of its Terms, then those of
 * the promises. That refused calls change nothing is in RefusedTest.
 */
public final class EdgesTest {
    private static final int NONE = -1;
    private static final long SEED_FOR_0 = 88172645463325252L;
    private static int wrong = 0;
    private static String sentence = "";

    private static void due(String call, long want, long got) {
        if (got != want) {
            wrong++;
            System.out.println(sentence + ": " + call + " answered " + got + ", due is " + want);
        }
    }

    private static void due(String call, boolean want, boolean got) {
        due(call, want ? 1 : 0, got ? 1 : 0);
    }

    private static AreaGoals sea(long... costs) {
        AreaGoals x = new AreaGoals(0);
        for (long cost : costs) {
            x.cell(cost);
        }
        return x;
    }

    private static AreaGoals seaOf(int cells, long cost) {
        AreaGoals x = new AreaGoals(0);
        for (int c = 0; c < cells; c++) {
            x.cell(cost);
        }
        return x;
    }

    private static String chosenOf(AreaGoals x) {
        StringBuilder got = new StringBuilder();
        for (int c = 0; c < 24; c++) {
            if (x.chosen(c)) {
                got.append(got.length() == 0 ? "" : " ").append(c);
            }
        }
        return got.toString();
    }

    private static void dueChosen(AreaGoals x, String want) {
        String got = chosenOf(x);
        if (!got.equals(want)) {
            wrong++;
            System.out.println(sentence + ": chosen are [" + got + "], due are [" + want + "]");
        }
    }

    private static void dueMet(AreaGoals x, int kind, long above, long below) {
        due("met(" + kind + ", 0)", above, x.met(kind, 0));
        due("met(" + kind + ", 1)", below, x.met(kind, 1));
    }

    private static void dueLoss(AreaGoals x, int port, long above, long below) {
        due("loss(" + port + ", 0)", above, x.loss(port, 0));
        due("loss(" + port + ", 1)", below, x.loss(port, 1));
    }

    public static void main(String[] args) {
        atMost24Cells();
        allIs0AtFirst();
        freeAtFirst();
        lateCells();
        leastAtItsEdge();
        goalsAtTheirEdge();
        fairShareAtItsEdge();
        tooFar();
        bordersOfAChoice();
        severalOfLeastCost();
        howManyNodes();
        latestChoiceStays();
        noChoice();
        theSeed0();
        oneDrawEachStep();
        improvingBegins();
        whatIsKept();
        zeroOverOne();
        lowestTerms();
        greatestSums();
        mustAndBar();
        zones();
        boundBehindEach();
        clashes();
        improveAtItsEnds();
        oftenIsAsImprove();
        years();
        windToTheTop();
        unlikeThroughAll();
        ties();
        the512thCall();
        System.out.println(wrong == 0 ? "all edges hold" : wrong + " answers are not as due");
        if (wrong != 0) {
            System.exit(1);
        }
    }

    // ---- Terms ----

    private static void atMost24Cells() {
        sentence = "cells 0, 1, .. (at most 24)";
        AreaGoals x = new AreaGoals(1);
        for (int c = 0; c < 24; c++) {
            due("must of the next", false, x.must(c));
            due("cell(" + c + ")", c, x.cell(c));
            due("must of it", true, x.must(c));
            due("size(0)", c + 1, x.size(0));
        }
        due("cell(0)", NONE, x.cell(0));
        due("cell(10^6)", NONE, x.cell(1000000));
        due("must(24)", false, x.must(24));
        due("run(1)", 0, x.run(1));
        due("cost()", 276, x.cost());
        due("chosen(23)", true, x.chosen(23));
        due("chosen(24)", false, x.chosen(24));
        due("unlike(24)", 24, x.unlike(24));
        due("unlike(23)", 23, x.unlike(23));
        due("year(23)", 11, x.year(23));
        due("year(24)", NONE, x.year(24));
        x.bar(23);
        due("run(1)", 0, x.run(1));
        due("cost()", 253, x.cost());
        due("unlike(24)", 1, x.unlike(24));
        due("unlike(23)", 0, x.unlike(23));
    }

    private static void allIs0AtFirst() {
        sentence = "all 0 at first";
        AreaGoals x = seaOf(24, 0);
        for (int c = 0; c < 24; c++) {
            x.must(c);
        }
        due("run(1)", 0, x.run(1));
        due("cost()", 0, x.cost());
        due("border()", 0, x.border());
        for (int kind = 0; kind < 8; kind++) {
            dueMet(x, kind, 0, 1);
            due("zone", 0, x.zone(kind % 4, kind));
            due("clash", NONE, x.clash(kind));
        }
        for (int port = 0; port < 4; port++) {
            dueLoss(x, port, 0, 1);
        }
    }

    private static void freeAtFirst() {
        sentence = "free (at first)";
        AreaGoals x = new AreaGoals(1);
        for (int c = 0; c < 12; c++) {
            x.cell(1);
            due("run(2^n - 1)", 2, x.run((2L << c) - 1));
            due("bound(): none must be", 0, x.bound());
            due("run(2^n)", 0, x.run(2L << c));
            dueChosen(x, "");
        }
    }

    private static void lateCells() {
        sentence = "a cell told behind a choice";
        AreaGoals x = sea(4, 4);
        x.holds(0, 2, 1, 1);
        x.port(1, 2, 5);
        x.must(0);
        x.must(1);
        x.run(1);
        due("cell(9)", 2, x.cell(9));
        due("chosen(2)", false, x.chosen(2));
        due("year(2)", NONE, x.year(2));
        due("cost()", 8, x.cost());
        due("unlike(24)", 2, x.unlike(24));
        x.holds(2, 2, 1, 2);
        x.port(2, 2, 5);
        x.near(2, 0, 3);
        dueMet(x, 2, 2, 3);
        dueLoss(x, 2, 1, 2);
        due("zone(2, 2)", 0, x.zone(2, 2));
        due("border()", 3, x.border());
        x.must(2);
        due("chosen(2)", false, x.chosen(2));
        x.run(1);
        due("chosen(2)", true, x.chosen(2));
        due("zone(2, 2)", 1, x.zone(2, 2));
        due("border()", 0, x.border());
    }

    private static void leastAtItsEdge() {
        sentence = "at least LEAST cells (0 at first)";
        AreaGoals x = sea(3, 1, 2);
        x.run(8);
        dueChosen(x, "");
        String[] want = {"", "1", "1 2", "0 1 2"};
        for (int least = 0; least <= 3; least++) {
            due("size", 3, x.size(least));
            due("run(8)", 0, x.run(8));
            dueChosen(x, want[least]);
        }
        x.size(4);
        due("run(8): there are 3", 1, x.run(8));
        due("improve(1)", NONE, x.improve(1));
        due("cell(0)", 3, x.cell(0));
        due("run(16)", 0, x.run(16));
        dueChosen(x, "0 1 2 3");
        due("improve(1)", 0, x.improve(1));
        due("tie(0): 3 cells are too few", NONE, x.tie(0));
        x.size(3);
        due("tie(0)", 3, x.tie(0));

        AreaGoals full = seaOf(24, 1);
        due("size(24)", 24, full.size(24));
        due("improve(1000): none may go", 0, full.improve(1000));
        due("cost()", 24, full.cost());
        full.size(23);
        due("improve(1000): one may go", 1, full.improve(1000));
        due("cost()", 23, full.cost());
        full.bar(0);
        due("improve(1): 23 are enough", 0, full.improve(1));
        full.bar(1);
        due("improve(1): 22 are not", NONE, full.improve(1));
        due("often(5, 1)", NONE, full.often(5, 1));
        full.size(22);
        due("often(5, 1)", 1, full.often(5, 1));
    }

    private static void goalsAtTheirEdge() {
        sentence = "at least those of all cells times above";
        AreaGoals x = sea(1, 100);
        x.holds(0, 0, 1, 3);
        x.holds(1, 0, 2, 3);
        x.goal(0, 33, 99);
        x.run(4);
        dueChosen(x, "0");
        x.goal(0, 34, 100);
        x.run(4);
        dueChosen(x, "1");
        x.goal(0, 2, 3);
        x.run(4);
        dueChosen(x, "1");
        x.goal(0, 67, 100);
        x.run(4);
        dueChosen(x, "0 1");
        x.goal(0, 0, 100);
        x.run(4);
        dueChosen(x, "");
        for (int kind = 1; kind < 8; kind++) {
            due("goal of all of nothing", true, x.goal(kind, 100, 100));
        }
        due("run(4)", 0, x.run(4));
        dueChosen(x, "");
        due("clash(0)", NONE, x.clash(0));
        due("improve(1)", 1, x.improve(1));
        for (int kind = 0; kind < 8; kind++) {
            AreaGoals one = sea(1, 2);
            one.holds(1, kind, 1, 16);
            one.goal(kind, 1, 100);
            one.run(4);
            dueChosen(one, "1");
        }
    }

    private static void fairShareAtItsEdge() {
        sentence = "the hours of no port times below are above";
        AreaGoals x = sea(1, 1);
        x.port(0, 0, 1000000);
        x.size(1);
        x.must(0);
        due("run(2): none was told", 0, x.run(2));
        x.fair(99, 100);
        due("run(2)", 1, x.run(2));
        x.port(1, 0, 10101);
        due("run(2): 99.000001 of 100", 1, x.run(2));
        x.port(1, 0, 10102);
        due("run(2): 98.99990 of 100", 0, x.run(2));
        x.port(0, 0, 99);
        x.port(1, 0, 1);
        due("run(2): just 99 of 100", 0, x.run(2));
        dueLoss(x, 0, 99, 100);
        x.fair(0, 100);
        due("run(2)", 1, x.run(2));
        x.port(0, 0, 0);
        due("run(2): nothing is lost", 0, x.run(2));
        x.port(0, 1, 1);
        due("run(2): another port loses", 1, x.run(2));
        x.port(0, 1, 0);
        x.port(1, 0, 0);
        due("run(2): no hours at all", 0, x.run(2));
        due("improve(50)", 1, x.improve(50));
    }

    private static void tooFar() {
        sentence = "no two that are too far from one another";
        AreaGoals x = seaOf(24, 1);
        due("far(0, 23, -1)", true, x.far(0, 23, -1));
        due("improve(1)", NONE, x.improve(1));
        x.bar(23);
        due("improve(1): one is barred", 1, x.improve(1));
        x.must(23);
        x.bar(0);
        due("improve(1): the other", true, x.improve(1) != NONE);
        x.must(0);
        for (int c = 1; c < 23; c++) {
            x.bar(c);
        }
        due("run(1): both must be", 1, x.run(1));
        due("far(23, 0, 0)", true, x.far(23, 0, 0));
        due("run(1)", 0, x.run(1));
        dueChosen(x, "0 23");
        due("far(0, 23, max)", true, x.far(0, 23, Integer.MAX_VALUE));
        due("run(1)", 0, x.run(1));
        due("far(0, 23, min)", true, x.far(0, 23, Integer.MIN_VALUE));
        due("far(0, 23, -1), again", true, x.far(0, 23, -1));
        due("run(1)", 1, x.run(1));
        due("far(23, 0, -1), from the other side", true, x.far(23, 0, -1));
        due("run(1)", 1, x.run(1));
        due("far(0, 23, 0): once is enough", true, x.far(0, 23, 0));
        due("run(1)", 0, x.run(1));
        due("far(23, 0, 0), again", true, x.far(23, 0, 0));
        due("run(1)", 0, x.run(1));
    }

    private static void bordersOfAChoice() {
        sentence = "the lengths of all borders between a cell of it and one that is not";
        AreaGoals x = sea(0, 0, 0);
        x.near(0, 1, 5);
        x.near(1, 2, 7);
        x.near(0, 2, 11);
        x.must(0);
        x.bar(1);
        x.bar(2);
        x.run(1);
        due("border(): to barred cells too", 16, x.border());
        due("cost(): the weight is 0 at first", 0, x.cost());
        x.weight(1);
        due("cost(): as it was", 0, x.cost());
        x.run(1);
        due("cost()", 16, x.cost());
        x.must(1);
        x.run(1);
        due("cost()", 18, x.cost());
        x.must(2);
        x.run(1);
        due("cost(): all of them have none", 0, x.cost());
        due("border()", 0, x.border());
        x.bar(0);
        x.bar(1);
        x.bar(2);
        x.run(1);
        due("cost(): none of them has none", 0, x.cost());
        due("border()", 0, x.border());
    }

    private static void severalOfLeastCost() {
        sentence = "of several one with the fewest cells, of these the lesser cell where two differ first";
        AreaGoals zero = seaOf(12, 0);
        zero.run(4096);
        dueChosen(zero, "");
        zero.size(1);
        zero.run(4096);
        dueChosen(zero, "0");
        zero.size(11);
        zero.run(4096);
        dueChosen(zero, "0 1 2 3 4 5 6 7 8 9 10");
        zero.size(2);
        zero.holds(11, 0, 1, 1);
        zero.goal(0, 1, 1);
        zero.run(4096);
        dueChosen(zero, "0 11");
        zero.far(0, 11, -1);
        zero.run(4096);
        dueChosen(zero, "1 11");

        AreaGoals fewer = sea(0, 5, 2, 3);
        fewer.holds(1, 0, 2, 1);
        fewer.holds(2, 0, 1, 1);
        fewer.holds(3, 0, 1, 1);
        fewer.goal(0, 1, 2);
        fewer.run(16);
        dueChosen(fewer, "1");
        fewer.size(2);
        fewer.run(16);
        dueChosen(fewer, "0 1");
        fewer.bar(0);
        fewer.run(8);
        dueChosen(fewer, "2 3");

        // {0, 3} and {1, 2}: the first has the lesser first cell, the second the lesser last one.
        AreaGoals cross = sea(1, 1, 1, 1);
        cross.holds(0, 0, 1, 1);
        cross.holds(1, 1, 1, 1);
        cross.holds(2, 0, 1, 1);
        cross.holds(3, 1, 1, 1);
        cross.goal(0, 1, 2);
        cross.goal(1, 1, 2);
        cross.far(0, 1, -1);
        cross.far(2, 3, -1);
        cross.run(16);
        dueChosen(cross, "0 3");

        AreaGoals must = sea(1, 0, 1);
        must.must(1);
        must.size(2);
        must.run(4);
        dueChosen(must, "0 1");
    }

    private static void howManyNodes() {
        sentence = "2 to the number of free cells is at most its nodes, and at most 4096";
        for (int free = 0; free <= 24; free++) {
            AreaGoals x = seaOf(24, 1);
            for (int c = free; c < 24; c++) {
                if (c % 2 == 0) {
                    x.must(c);
                } else {
                    x.bar(c);
                }
            }
            boolean few = free <= 12;
            long ways = 1L << free;
            due(free + " free: run(2^n - 1)", 2, x.run(ways - 1));
            due(free + " free: run(2^n)", few ? 0 : 2, x.run(ways));
            due(free + " free: run(2^n + 1)", few ? 0 : 2, x.run(ways + 1));
            due(free + " free: run(4096)", few ? 0 : 2, x.run(4096));
            due(free + " free: run(4095)", free < 12 ? 0 : 2, x.run(4095));
            due(free + " free: run(4097)", few ? 0 : 2, x.run(4097));
            due(free + " free: run(max)", few ? 0 : 2, x.run(Long.MAX_VALUE));
            due(free + " free: run(0)", 2, x.run(0));
            due(free + " free: run(-1)", 2, x.run(-1));
            due(free + " free: run(min)", 2, x.run(Long.MIN_VALUE));
            due(free + " free: run(2^32)", few ? 0 : 2, x.run(1L << 32));
            due(free + " free: run(-2^32 + 4096)", 2, x.run(4096 - (1L << 32)));
        }
        AreaGoals late = seaOf(12, 1);
        due("run(4096)", 0, late.run(4096));
        late.cell(1);
        due("run(4096): 13 are free", 2, late.run(4096));
        late.must(12);
        due("run(4096): 12 are", 0, late.run(4096));
        due("cost()", 1, late.cost());
        late.far(0, 12, -1);
        due("run(4096): far leaves them free", 0, late.run(4096));
        late.size(13);
        due("run(4095): too many, though none stands", 2, late.run(4095));
        due("run(4096): none stands", 1, late.run(4096));
    }

    private static void latestChoiceStays() {
        sentence = "what it found stays until the next run() or improve(), whatever is told";
        for (boolean improved : new boolean[] {false, true}) {
            AreaGoals x = sea(3, 2, 4);
            x.holds(0, 0, 1, 1);
            x.must(0);
            x.must(1);
            x.bar(2);
            x.size(2);
            due("the choice", 0, improved ? x.improve(7) : x.run(1));
            x.cell(0);
            x.holds(1, 0, 3, 1);
            x.goal(0, 1, 1);
            x.near(0, 2, 9);
            x.weight(9);
            x.must(2);
            x.bar(0);
            x.port(0, 0, 9);
            x.fair(0, 1);
            x.size(24);
            x.wind(1, 50);
            x.far(0, 1, -1);
            x.often(0, 3);
            dueChosen(x, "0 1");
            due("cost()", 5, x.cost());
            due("unlike(24)", 2, x.unlike(24));
            dueMet(x, 0, 1, 1);
            dueLoss(x, 0, 1, 1);
            due("border()", 9, x.border());
            due("year(0)", 0, x.year(0));
            due("zone(1, 0)", 1, x.zone(1, 0));
            due("tie(0): it does not stand any more", NONE, x.tie(0));
            due("bound()", improved ? NONE : 5, x.bound());
            due("proved()", !improved, x.proved());
            due("clash(0)", NONE, x.clash(0));
            due("run(4096)", 1, x.run(4096));
            dueChosen(x, "");
            due("cost()", NONE, x.cost());
        }
    }

    private static void dueNoChoice(AreaGoals x, int cells) {
        dueChosen(x, "");
        due("cost()", NONE, x.cost());
        due("border()", NONE, x.border());
        due("tie(0)", NONE, x.tie(0));
        due("zone(0, 0)", NONE, x.zone(0, 0));
        due("zone(3, 7)", NONE, x.zone(3, 7));
        dueMet(x, 0, NONE, NONE);
        dueMet(x, 7, NONE, NONE);
        dueLoss(x, 0, NONE, NONE);
        dueLoss(x, 3, NONE, NONE);
        for (int c = 0; c < cells; c++) {
            due("year(" + c + ")", NONE, x.year(c));
        }
    }

    private static void noChoice() {
        sentence = "no choice at first, and behind a run() that answers 1 or 2";
        dueNoChoice(new AreaGoals(0), 1);
        AreaGoals x = sea(0, 0);
        x.holds(0, 0, 1, 1);
        dueNoChoice(x, 2);
        due("run(4)", 0, x.run(4));
        due("cost(): a choice without cells is one", 0, x.cost());
        due("border()", 0, x.border());
        due("zone(0, 0)", 0, x.zone(0, 0));
        dueMet(x, 0, 0, 1);
        due("tie(1)", 1, x.tie(1));
        due("run(3)", 2, x.run(3));
        dueNoChoice(x, 2);
        x.must(0);
        x.run(2);
        dueChosen(x, "0");
        x.size(3);
        due("run(2)", 1, x.run(2));
        dueNoChoice(x, 2);
        x.size(0);
        due("improve(1)", 0, x.improve(1));
        due("cost()", 0, x.cost());
        x.far(0, 1, -1);
        due("improve(1)", NONE, x.improve(1));
        dueNoChoice(x, 2);
    }

    private static void theSeed0() {
        sentence = "88172645463325252 for 0";
        // Reckoned apart from any Java: the first numbers drawn are 4374267076742679256, 1520450496913367757, ..
        int[] first = {16, 21, 8, 10, 17, 14};
        AreaGoals zero = new AreaGoals(0);
        AreaGoals told = new AreaGoals(SEED_FOR_0);
        AreaGoals one = new AreaGoals(1);
        for (int c = 0; c < 24; c++) {
            zero.cell(1);
            told.cell(1);
            one.cell(1);
        }
        boolean differs = false;
        for (int i = 0; i < first.length; i++) {
            due("improve(1)", 1, zero.improve(1));
            due("chosen: the cell drawn is out", false, zero.chosen(first[i]));
            due("cost()", 23, zero.cost());
            told.improve(1);
            one.improve(1);
            dueChosen(told, chosenOf(zero));
            differs |= !chosenOf(one).equals(chosenOf(zero));
        }
        due("another seed draws others", true, differs);
    }

    private static void oneDrawEachStep() {
        sentence = "each step draws a number";
        for (int before = 1; before <= 5; before++) {
            AreaGoals x = seaOf(24, 1);
            AreaGoals y = seaOf(24, 1);
            x.size(24);
            due("improve: all undone, all drawn", 0, x.improve(before));
            x.size(0);
            for (int i = 0; i < before; i++) {
                due("improve(1): kept", 1, y.improve(1));
            }
            x.improve(3);
            y.improve(3);
            dueChosen(x, chosenOf(y));
        }
        sentence = "modulo the cells' number";
        for (int cells = 1; cells <= 24; cells++) {
            AreaGoals x = new AreaGoals(Long.MIN_VALUE);
            for (int c = 0; c < cells; c++) {
                x.cell(1);
            }
            // One step from 1 << 63: the shifts to the left drop it, 1 << 56 comes of the one to the right.
            long state = Long.MIN_VALUE | 1L << 56;
            long drawn = state >>> 1;
            x.improve(1);
            due(cells + " cells: chosen", false, x.chosen((int) (drawn % cells)));
            due("cost()", cells - 1, x.cost());
        }
    }

    private static void improvingBegins() {
        sentence = "begins with all cells that are not barred, or, when that does not stand, ends with no choice";
        AreaGoals x = sea(0, 0, 0);
        due("improve(1)", 0, x.improve(1));
        dueChosen(x, "0 1 2");
        x.bar(1);
        due("improve(1)", 0, x.improve(1));
        dueChosen(x, "0 2");
        x.bar(0);
        x.bar(2);
        due("improve(1): with none at all", 0, x.improve(1));
        dueChosen(x, "");
        due("cost()", 0, x.cost());
        due("border()", 0, x.border());
        x.size(1);
        due("improve(1)", NONE, x.improve(1));
        due("cost()", NONE, x.cost());
        x.must(0);
        due("improve(1)", 0, x.improve(1));
        x.holds(1, 4, 1, 1);
        x.goal(4, 1, 100);
        due("improve(1): a goal", NONE, x.improve(1));
        due("cost()", NONE, x.cost());
        x.goal(4, 0, 1);
        x.must(2);
        x.far(2, 0, -1);
        due("improve(1): too far", NONE, x.improve(1));
        x.far(2, 0, 0);
        x.port(0, 2, 1);
        x.fair(0, 1);
        due("improve(1): a port", NONE, x.improve(1));
        due("often(0, 1)", NONE, x.often(0, 1));
        x.fair(1, 1);
        due("improve(1)", 0, x.improve(1));
        dueChosen(x, "0 2");
    }

    private static void whatIsKept() {
        sentence = "kept if what comes of it stands and costs less, otherwise it is undone";
        AreaGoals must = sea(7);
        must.must(0);
        due("improve(1): must be", 0, must.improve(1));
        dueChosen(must, "0");
        AreaGoals same = sea(0);
        due("improve(1): costs the same", 0, same.improve(1));
        dueChosen(same, "0");
        AreaGoals barred = sea(0, 0);
        barred.bar(0);
        barred.near(0, 1, 4);
        barred.weight(1);
        barred.must(1);
        due("improve(50): barred, though it would cost less", 0, barred.improve(50));
        due("cost()", 4, barred.cost());
        AreaGoals goal = sea(7);
        goal.holds(0, 3, 1, 16);
        goal.goal(3, 1, 100);
        due("improve(50): the goal is lost", 0, goal.improve(50));
        goal.goal(3, 0, 100);
        due("improve(50): there is none", 1, goal.improve(50));
        due("cost()", 0, goal.cost());
        AreaGoals border = sea(2, 2);
        border.near(0, 1, 3);
        border.weight(1);
        due("improve(50): alone costs more by its border", 0, border.improve(50));
        border.near(0, 1, 2);
        due("improve(50): or the same", 0, border.improve(50));
        border.near(0, 1, 1);
        due("improve(50): or less", 2, border.improve(50));
        dueChosen(border, "");

        // 2 goes; 1 out would save 1 and cost its border of 1 with 0, which is not less.
        AreaGoals again = sea(9, 1, 9);
        again.near(0, 1, 1);
        again.weight(1);
        again.must(0);
        due("improve(200)", 1, again.improve(200));
        dueChosen(again, "0 1");
    }

    private static void zeroOverOne() {
        sentence = "0 as 0 over 1, also when there is nothing at all of it";
        AreaGoals none = new AreaGoals(0);
        none.run(1);
        for (int kind = 0; kind < 8; kind++) {
            dueMet(none, kind, 0, 1);
        }
        for (int port = 0; port < 4; port++) {
            dueLoss(none, port, 0, 1);
        }
        AreaGoals x = sea(1, 1);
        x.must(0);
        x.run(2);
        dueMet(x, 6, 0, 1);
        dueLoss(x, 2, 0, 1);
        x.holds(1, 6, 1000, 16);
        x.port(1, 2, 1000000);
        dueMet(x, 6, 0, 1);
        dueLoss(x, 2, 0, 1);
        x.holds(0, 6, 1, 1);
        x.port(0, 2, 1);
        x.holds(0, 6, 0, 16);
        x.port(0, 2, 0);
        x.holds(1, 6, 0, 1);
        x.port(1, 2, 0);
        dueMet(x, 6, 0, 1);
        dueLoss(x, 2, 0, 1);
        due("met(6, 2)", NONE, x.met(6, 2));
        due("met(6, -1)", NONE, x.met(6, -1));
        due("loss(2, 2)", NONE, x.loss(2, 2));
        due("loss(2, -1)", NONE, x.loss(2, -1));
    }

    private static void lowestTerms() {
        sentence = "fractions are told in lowest terms";
        AreaGoals x = sea(1, 1);
        x.must(0);
        x.bar(1);
        x.run(1);
        for (int below = 1; below <= 16; below++) {
            x.holds(0, 1, 1, below);
            x.holds(1, 1, 1, 1);
            dueMet(x, 1, 1, below + 1);
            x.holds(1, 1, 1, below);
            dueMet(x, 1, 1, 2);
            x.holds(1, 1, 0, below);
            dueMet(x, 1, 1, 1);
        }
        x.holds(0, 1, 1000, 1);
        x.holds(1, 1, 1, 16);
        dueMet(x, 1, 16000, 16001);
        x.holds(1, 1, 1000, 13);
        dueMet(x, 1, 13, 14);
        x.port(0, 1, 999999);
        x.port(1, 1, 1000000);
        dueLoss(x, 1, 999999, 1999999);
        x.port(0, 1, 1000000);
        dueLoss(x, 1, 1, 2);
        x.port(0, 1, 1);
        dueLoss(x, 1, 1, 1000001);
        x.port(1, 1, 0);
        dueLoss(x, 1, 1, 1);
        x.port(0, 1, 0);
        x.port(1, 1, 1);
        dueLoss(x, 1, 0, 1);
    }

    private static void greatestSums() {
        sentence = "the greatest of all";
        AreaGoals x = seaOf(24, 1000000);
        x.weight(1000);
        for (int c = 0; c < 24; c++) {
            x.holds(c, 0, 1000, 1);
            x.port(c, 3, 1000000);
        }
        for (int c = 0; c < 12; c++) {
            for (int d = 12; d < 24; d++) {
                x.near(c, d, 1000);
            }
            x.must(c);
            x.bar(c + 12);
        }
        x.goal(0, 50, 100);
        x.fair(50, 100);
        due("run(1)", 0, x.run(1));
        due("border()", 144000, x.border());
        due("cost()", 12000000 + 144000000, x.cost());
        due("bound()", 156000000, x.bound());
        dueMet(x, 0, 1, 2);
        dueLoss(x, 3, 1, 2);
        x.goal(0, 51, 100);
        due("run(1)", 1, x.run(1));
        due("clash(0)", 0, x.clash(0));
        x.goal(0, 100, 100);
        x.fair(49, 100);
        due("run(1)", 1, x.run(1));
        due("run(0)", 2, x.run(0));
        due("bound(): without borders", 12000000, x.bound());
    }

    // ---- promises ----

    private static void mustAndBar() {
        sentence = "a cell must be chosen, or is barred, or is free";
        for (int c = 0; c < 24; c++) {
            AreaGoals x = seaOf(24, 1);
            for (int other = 0; other < 24; other++) {
                x.bar(other);
            }
            due("must(c)", true, x.must(c));
            due("must(c), again", true, x.must(c));
            due("run(1)", 0, x.run(1));
            dueChosen(x, "" + c);
            due("bar(c)", true, x.bar(c));
            due("bar(c), again", true, x.bar(c));
            due("run(1)", 0, x.run(1));
            dueChosen(x, "");
        }
    }

    private static void zones() {
        sentence = "leave the rest z2 over 4 and have some of a kind";
        AreaGoals x = seaOf(24, 0);
        for (int c = 0; c < 24; c++) {
            x.must(c);
            x.holds(c, 5, 1, 16);
        }
        x.run(1);
        for (int z = 0; z < 4; z++) {
            due("zone(" + z + ", 5)", 6, x.zone(z, 5));
            due("zone(" + z + ", 4)", 0, x.zone(z, 4));
            due("zone(" + z + ", 6)", 0, x.zone(z, 6));
        }
        x.holds(23, 5, 0, 16);
        due("zone(3, 5): as it is now", 5, x.zone(3, 5));
        x.holds(20, 7, 1000, 1);
        due("zone(0, 7)", 1, x.zone(0, 7));
        due("zone(-4, 7)", NONE, x.zone(-4, 7));
    }

    private static void boundBehindEach() {
        sentence = "bound(), as told by the latest run()";
        AreaGoals x = sea(5, 6);
        due("bound() before", NONE, x.bound());
        x.must(0);
        x.near(0, 1, 10);
        x.weight(10);
        due("run(1)", 2, x.run(1));
        due("bound() behind 2", 5, x.bound());
        x.must(1);
        x.wind(0, 1);
        due("bound(): as told", 5, x.bound());
        due("run(0)", 2, x.run(0));
        due("bound() behind 2", 12, x.bound());
        due("run(1)", 0, x.run(1));
        due("bound() behind 0", 12, x.bound());
        x.bar(1);
        due("run(1)", 0, x.run(1));
        due("bound() behind 0: with borders", 106, x.bound());
        x.far(0, 1, -1);
        x.must(1);
        due("run(1)", 1, x.run(1));
        due("bound() behind 1", NONE, x.bound());
        due("run(0): though none can stand", 2, x.run(0));
        due("bound() behind 2", 12, x.bound());
        due("improve(1)", NONE, x.improve(1));
        due("bound(): of a run() alone", 12, x.bound());
        due("proved()", false, x.proved());
    }

    private static void clashes() {
        sentence = "clash(), as they were in the latest run()";
        AreaGoals x = sea(1, 1);
        for (int kind = 0; kind < 8; kind++) {
            x.holds(0, kind, 1, 1);
            x.goal(kind, 1, 100);
        }
        x.bar(0);
        due("clash(0): no run()", NONE, x.clash(0));
        due("run(2)", 1, x.run(2));
        for (int kind = 0; kind < 8; kind++) {
            due("clash(" + kind + ")", kind, x.clash(kind));
        }
        due("clash(8)", NONE, x.clash(8));
        due("clash(-1)", NONE, x.clash(-1));
        x.must(0);
        due("clash(7): as they were", 7, x.clash(7));
        x.improve(1);
        due("clash(7): improve() is no run()", 7, x.clash(7));
        x.run(0);
        due("clash(0) behind 2", NONE, x.clash(0));
        x.bar(0);
        x.holds(1, 3, 1, 1);
        due("clash(0)", NONE, x.clash(0));
        x.run(0);
        due("clash(2)", 2, x.clash(2));
        due("clash(3): 3 can be met", 4, x.clash(3));
        due("clash(7)", NONE, x.clash(7));
        x.goal(3, 1, 2);
        x.run(2);
        due("clash(3): 3 can just be met", 4, x.clash(3));
        x.goal(3, 51, 100);
        x.run(2);
        due("clash(3)", 3, x.clash(3));
        AreaGoals met = sea(1);
        met.goal(0, 0, 1);
        met.goal(1, 1, 1);
        met.size(2);
        due("run(2): not for a goal", 1, met.run(2));
        due("clash(0)", NONE, met.clash(0));
    }

    private static void improveAtItsEnds() {
        sentence = "NONE when steps is not 1 .. 1000, or there are no cells";
        AreaGoals x = new AreaGoals(0);
        due("improve(1)", NONE, x.improve(1));
        due("improve(1000)", NONE, x.improve(1000));
        due("cost()", NONE, x.cost());
        x.run(1);
        due("improve(1)", NONE, x.improve(1));
        due("cost(): a refused call leaves it", 0, x.cost());
        x.size(1);
        due("improve(1): no cells, and none stands", NONE, x.improve(1));
        due("cost(): a refused call leaves it", 0, x.cost());
        x.size(0);
        x.cell(3);
        due("improve(1001)", NONE, x.improve(1001));
        due("improve(0)", NONE, x.improve(0));
        due("cost()", 0, x.cost());
        x.size(2);
        due("improve(1001): steps out of range, and none stands", NONE, x.improve(1001));
        due("cost(): a refused call leaves it", 0, x.cost());
        due("improve(1000): none stands", NONE, x.improve(1000));
        due("cost(): no choice then", NONE, x.cost());
        x.size(0);
        due("improve(1)", 1, x.improve(1));
        due("improve(1000)", 1, x.improve(1000));
        due("cost()", 0, x.cost());
    }

    private static void oftenIsAsImprove() {
        sentence = "improving by 40 steps with the seeds 1, 2, .. seeds";
        int[][] count = new int[21][24];
        for (int seed = 1; seed <= 20; seed++) {
            AreaGoals one = hilly(seed);
            one.improve(40);
            for (int c = 0; c < 24; c++) {
                count[seed][c] = count[seed - 1][c] + (one.chosen(c) ? 1 : 0);
            }
        }
        AreaGoals x = hilly(77);
        x.improve(5);
        String before = chosenOf(x);
        for (int seeds : new int[] {1, 2, 20}) {
            for (int c = 0; c < 24; c++) {
                due("often(" + c + ", " + seeds + ")", count[seeds][c], x.often(c, seeds));
            }
        }
        dueChosen(x, before);
        AreaGoals y = hilly(77);
        y.improve(5);
        x.improve(5);
        y.improve(5);
        dueChosen(x, chosenOf(y));
        due("often(0, 0)", NONE, x.often(0, 0));
        due("often(0, 21)", NONE, x.often(0, 21));
        due("often(24, 20)", NONE, x.often(24, 20));
    }

    private static AreaGoals hilly(long seed) {
        AreaGoals x = new AreaGoals(seed);
        for (int c = 0; c < 24; c++) {
            x.cell(c * 7 % 10);
            x.holds(c, c % 3, 1, 1 + c % 4);
        }
        for (int c = 1; c < 24; c++) {
            x.near(c - 1, c, c % 5);
        }
        x.weight(2);
        x.goal(0, 1, 2);
        x.goal(1, 1, 3);
        return x;
    }

    private static void years() {
        sentence = "two each year, the less costly ones first, of the same cost the lesser cell";
        AreaGoals x = seaOf(24, 3);
        for (int c = 0; c < 24; c++) {
            x.must(c);
        }
        x.run(1);
        for (int c = 0; c < 24; c++) {
            due("year(" + c + ")", c / 2, x.year(c));
        }
        x.wind(0, 1);
        due("year(0): the dearest now", 11, x.year(0));
        due("year(1)", 0, x.year(1));
        due("year(2)", 0, x.year(2));
        due("year(3)", 1, x.year(3));
        due("year(23)", 11, x.year(23));
        due("year(-1)", NONE, x.year(-1));
        due("year(24)", NONE, x.year(24));
        AreaGoals one = sea(5, 0);
        one.must(0);
        one.bar(1);
        one.run(1);
        due("year(0): what is not in it does not count", 0, one.year(0));
        due("year(1)", NONE, one.year(1));
    }

    private static void windToTheTop() {
        sentence = "or the cost would be above 10^7";
        AreaGoals x = sea(0, 1);
        x.must(0);
        x.must(1);
        for (int i = 0; i < 10; i++) {
            due("wind(0, 10^6)", true, x.wind(0, 1000000));
        }
        for (int i = 0; i < 9; i++) {
            due("wind(1, 10^6)", true, x.wind(1, 1000000));
        }
        due("wind(0, 1)", false, x.wind(0, 1));
        due("wind(0, 10^6)", false, x.wind(0, 1000000));
        due("wind(0, 0): not above", true, x.wind(0, 0));
        due("wind(1, 10^6)", false, x.wind(1, 1000000));
        x.run(1);
        due("cost(): refused changed nothing", 19000001, x.cost());
        due("wind(1, 999999): just 10^7", true, x.wind(1, 999999));
        due("wind(1, 1)", false, x.wind(1, 1));
        x.run(1);
        due("cost()", 20000000, x.cost());
        due("year(1): the same cost now", 0, x.year(1));
    }

    private static void unlikeThroughAll() {
        sentence = "in just one of the latest choice and the choice before it";
        AreaGoals x = sea(0, 0, 0, 0);
        due("unlike(24): no choice, and none", 0, x.unlike(24));
        x.must(0);
        x.must(3);
        x.run(4);
        for (int cells = 0; cells <= 24; cells++) {
            due("unlike(" + cells + ")", cells == 0 ? 0 : cells < 4 ? 1 : 2, x.unlike(cells));
        }
        x.run(4);
        due("unlike(24): the same twice", 0, x.unlike(24));
        x.improve(1);
        due("unlike(24): 1 and 2 came", 2, x.unlike(24));
        due("unlike(1)", 0, x.unlike(1));
        due("unlike(2)", 1, x.unlike(2));
        due("improve(0)", NONE, x.improve(0));
        due("improve(1001)", NONE, x.improve(1001));
        due("unlike(24): refused", 2, x.unlike(24));
        x.often(0, 20);
        due("unlike(24): often() leaves it", 2, x.unlike(24));
        x.size(5);
        due("run(4)", 1, x.run(4));
        due("unlike(24): all, and no choice", 4, x.unlike(24));
        due("run(0)", 2, x.run(0));
        due("unlike(24): no choice, and none", 0, x.unlike(24));
        x.size(0);
        x.run(4);
        due("unlike(24): 0 and 3 came", 2, x.unlike(24));
        x.size(5);
        due("improve(1)", NONE, x.improve(1));
        due("unlike(24): they went", 2, x.unlike(24));
        due("improve(1)", NONE, x.improve(1));
        due("unlike(24): no choice, and none", 0, x.unlike(24));
    }

    private static void ties() {
        sentence = "the k-th cell that is free and could be exchanged";
        AreaGoals x = seaOf(24, 0);
        x.improve(1);
        for (int k = 0; k < 24; k++) {
            due("tie(" + k + ")", k, x.tie(k));
        }
        due("tie(24)", NONE, x.tie(24));
        due("tie(max)", NONE, x.tie(Integer.MAX_VALUE));
        due("tie(-1)", NONE, x.tie(-1));
        due("tie(min)", NONE, x.tie(Integer.MIN_VALUE));
        x.must(0);
        due("tie(0): 0 must be", 1, x.tie(0));
        x.bar(0);
        due("tie(0): with 0 barred none of them stands", NONE, x.tie(0));
        x.must(0);
        x.size(24);
        due("tie(0): 23 are too few", NONE, x.tie(0));
        x.size(23);
        due("tie(22)", 23, x.tie(22));
        x.holds(1, 0, 1, 1);
        x.goal(0, 1, 1);
        due("tie(0): 1 has all of a kind", 2, x.tie(0));
        x.wind(2, 1);
        due("tie(0): 2 costs", 3, x.tie(0));
        x.near(2, 5, 1);
        x.weight(1);
        due("tie(0): 2 out costs its border instead", 2, x.tie(0));
        due("tie(3): 5 out costs its border", 6, x.tie(3));
        x.port(9, 3, 7);
        x.fair(0, 1);
        due("tie(0): only without 9 it is fair", 9, x.tie(0));
        due("tie(1)", NONE, x.tie(1));
    }

    private static void the512thCall() {
        sentence = "at most 512 calls";
        AreaGoals x = seaOf(24, 3);
        for (int c = 12; c < 24; c++) {
            x.must(c);
        }
        for (int call = 37; call < 512; call++) {
            due("run(4096)", 0, x.run(4096));
        }
        due("cost()", 36, x.cost());
    }
}
