/** Each promise of the document by hand: ordinary inputs, the edges that it names, and wrong inputs. */
public final class PromisesTest {
    private static final int NONE = -1;
    private static int wrong = 0;
    private static String promise = "";

    private static void due(String call, long want, long got) {
        if (got != want) {
            wrong++;
            System.out.println(promise + ": " + call + " answered " + got + ", due is " + want);
        }
    }

    private static void due(String call, boolean want, boolean got) {
        due(call, want ? 1 : 0, got ? 1 : 0);
    }

    /** An object with a cell for each cost. */
    private static AreaGoals sea(long... costs) {
        AreaGoals x = new AreaGoals(0);
        for (long cost : costs) {
            x.cell(cost);
        }
        return x;
    }

    private static void dueChosen(AreaGoals x, String want) {
        StringBuilder got = new StringBuilder();
        for (int c = 0; c < 24; c++) {
            if (x.chosen(c)) {
                got.append(got.length() == 0 ? "" : " ").append(c);
            }
        }
        if (!got.toString().equals(want)) {
            wrong++;
            System.out.println(promise + ": chosen are [" + got + "], due are [" + want + "]");
        }
    }

    public static void main(String[] args) {
        newObject();
        cell();
        holds();
        goal();
        near();
        weight();
        must();
        bar();
        zone();
        run();
        runTies();
        chosen();
        cost();
        bound();
        met();
        clash();
        proved();
        improve();
        improveDraws();
        often();
        port();
        loss();
        fair();
        border();
        size();
        year();
        wind();
        unlike();
        far();
        tie();
        System.out.println(wrong == 0 ? "all promises hold" : wrong + " answers are not as due");
        if (wrong != 0) {
            System.exit(1);
        }
    }

    private static void newObject() {
        promise = "1 a new object";
        for (long seed : new long[] {0, 1, -1, Long.MIN_VALUE, Long.MAX_VALUE}) {
            AreaGoals x = new AreaGoals(seed);
            due("size(0)", 0, x.size(0));
            due("chosen(0)", false, x.chosen(0));
            due("must(0)", false, x.must(0));
            due("cost()", NONE, x.cost());
            due("bound()", NONE, x.bound());
            due("border()", NONE, x.border());
            due("proved()", false, x.proved());
            due("clash(0)", NONE, x.clash(0));
            due("met(0, 0)", NONE, x.met(0, 0));
            due("loss(0, 1)", NONE, x.loss(0, 1));
            due("zone(0, 0)", NONE, x.zone(0, 0));
            due("tie(0)", NONE, x.tie(0));
            due("unlike(24)", 0, x.unlike(24));
            due("improve(1)", NONE, x.improve(1));
            due("cell(0)", 0, x.cell(0));
        }
        due("NONE", -1, AreaGoals.NONE);
    }

    private static void cell() {
        promise = "2 cell";
        AreaGoals x = new AreaGoals(0);
        due("cell(-1)", NONE, x.cell(-1));
        due("cell(10^6 + 1)", NONE, x.cell(1000001));
        due("cell(min)", NONE, x.cell(Long.MIN_VALUE));
        due("cell(max)", NONE, x.cell(Long.MAX_VALUE));
        due("size(0)", 0, x.size(0));
        due("cell(10^6)", 0, x.cell(1000000));
        for (int c = 1; c < 24; c++) {
            due("cell(0)", c, x.cell(0));
        }
        due("cell(0), the 25th", NONE, x.cell(0));
        due("size(0)", 24, x.size(0));
        x.improve(1);
        x.must(0);
        for (int c = 1; c < 24; c++) {
            x.bar(c);
        }
        due("run(1)", 0, x.run(1));
        due("cost()", 1000000, x.cost());
    }

    private static void holds() {
        promise = "3 holds";
        AreaGoals x = sea(5, 1, 1);
        due("holds(-1, ..)", false, x.holds(-1, 0, 1, 1));
        due("holds(3, ..)", false, x.holds(3, 0, 1, 1));
        due("holds(24, ..)", false, x.holds(24, 0, 1, 1));
        due("kind -1", false, x.holds(0, -1, 1, 1));
        due("kind 8", false, x.holds(0, 8, 1, 1));
        due("above -1", false, x.holds(0, 0, -1, 1));
        due("above 1001", false, x.holds(0, 0, 1001, 1));
        due("below 0", false, x.holds(0, 0, 1, 0));
        due("below -1", false, x.holds(0, 0, 1, -1));
        due("below 17", false, x.holds(0, 0, 1, 17));
        due("below max", false, x.holds(0, 0, 1, Long.MAX_VALUE));
        x.must(0);
        x.bar(1);
        x.bar(2);
        x.run(1);
        due("met(0, 1): refused changed nothing", 1, x.met(0, 1));
        due("holds(0, 7, 1000, 16)", true, x.holds(0, 7, 1000, 16));
        due("holds(1, 7, 1, 1)", true, x.holds(1, 7, 1, 1));
        due("met(7, 0): 62.5 of 63.5", 125, x.met(7, 0));
        due("met(7, 1)", 127, x.met(7, 1));
        due("holds(2, 7, 1, 13)", true, x.holds(2, 7, 1, 13));
        due("met(7, 0): 1625 of 1653 over 26", 1625, x.met(7, 0));
        due("met(7, 1)", 1653, x.met(7, 1));
        due("holds(0, 7, 0, 1): told again", true, x.holds(0, 7, 0, 1));
        due("met(7, 0)", 0, x.met(7, 0));
        due("met(7, 1)", 1, x.met(7, 1));
        due("holds(0, 7, 1001, 1)", false, x.holds(0, 7, 1001, 1));
        due("met(7, 0): refused changed nothing", 0, x.met(7, 0));
    }

    private static void goal() {
        promise = "4 goal";
        AreaGoals x = sea(10, 20, 40);
        due("kind -1", false, x.goal(-1, 1, 2));
        due("kind 8", false, x.goal(8, 1, 2));
        due("above -1", false, x.goal(0, -1, 2));
        due("above > below", false, x.goal(0, 2, 1));
        due("below 0", false, x.goal(0, 0, 0));
        due("below 101", false, x.goal(0, 1, 101));
        due("below -1", false, x.goal(0, -2, -1));
        for (int c = 0; c < 3; c++) {
            x.holds(c, 7, 1, 1);
        }
        due("goal(7, 33, 100)", true, x.goal(7, 33, 100));
        x.run(8);
        dueChosen(x, "0");
        due("goal(7, 34, 100)", true, x.goal(7, 34, 100));
        x.run(8);
        dueChosen(x, "0 1");
        due("goal(7, 2, 3): just met", true, x.goal(7, 2, 3));
        x.run(8);
        dueChosen(x, "0 1");
        due("goal(7, 100, 100)", true, x.goal(7, 100, 100));
        x.run(8);
        dueChosen(x, "0 1 2");
        due("goal(7, 5, 4)", false, x.goal(7, 5, 4));
        x.run(8);
        dueChosen(x, "0 1 2");
        due("goal(7, 0, 1)", true, x.goal(7, 0, 1));
        x.run(8);
        dueChosen(x, "");
        x.goal(7, 1, 3);
        x.bar(0);
        x.bar(1);
        x.run(2);
        dueChosen(x, "2");
        x.goal(7, 1, 2);
        due("run: barred cells count in all there is", 1, x.run(2));
    }

    private static void near() {
        promise = "5 near";
        AreaGoals x = sea(1, 1, 1);
        due("same cells", false, x.near(1, 1, 1));
        due("cellA 3", false, x.near(3, 0, 1));
        due("cellB 3", false, x.near(0, 3, 1));
        due("cellA -1", false, x.near(-1, 0, 1));
        due("cellB -1", false, x.near(0, -1, 1));
        due("border -1", false, x.near(0, 1, -1));
        due("border 1001", false, x.near(0, 1, 1001));
        x.must(1);
        x.run(4);
        due("border()", 0, x.border());
        due("near(0, 1, 1000)", true, x.near(0, 1, 1000));
        due("border(), told from the other side", 1000, x.border());
        due("near(1, 2, 7)", true, x.near(1, 2, 7));
        due("border()", 1007, x.border());
        due("near(0, 2, 100)", true, x.near(0, 2, 100));
        due("border(): both outside", 1007, x.border());
        due("near(1, 0, 3): the same border", true, x.near(1, 0, 3));
        due("border()", 10, x.border());
        due("near(0, 1, 1001)", false, x.near(0, 1, 1001));
        due("border(): refused changed nothing", 10, x.border());
        due("near(2, 1, 0)", true, x.near(2, 1, 0));
        due("border()", 3, x.border());
    }

    private static void weight() {
        promise = "6 weight";
        AreaGoals x = sea(7, 500, 1);
        x.near(0, 1, 2);
        x.must(0);
        x.run(4);
        due("cost(): weight 0 at first", 7, x.cost());
        due("weight(-1)", false, x.weight(-1));
        due("weight(1001)", false, x.weight(1001));
        due("weight(min)", false, x.weight(Long.MIN_VALUE));
        x.run(4);
        due("cost()", 7, x.cost());
        due("weight(3)", true, x.weight(3));
        x.run(4);
        due("cost()", 13, x.cost());
        dueChosen(x, "0");
        due("weight(1000)", true, x.weight(1000));
        x.run(4);
        due("cost(): cheaper with its neighbour", 507, x.cost());
        dueChosen(x, "0 1");
        due("weight(0)", true, x.weight(0));
        x.run(4);
        due("cost()", 7, x.cost());
    }

    private static void must() {
        promise = "7 must";
        AreaGoals x = sea(5, 6);
        due("must(-1)", false, x.must(-1));
        due("must(2)", false, x.must(2));
        due("must(24)", false, x.must(24));
        due("must(32)", false, x.must(32));
        due("must(1)", true, x.must(1));
        due("must(1), again", true, x.must(1));
        due("run(2)", 0, x.run(2));
        dueChosen(x, "1");
        x.bar(0);
        due("run(2)", 0, x.run(2));
        due("must(0): no longer barred", true, x.must(0));
        due("run(1)", 0, x.run(1));
        dueChosen(x, "0 1");
    }

    private static void bar() {
        promise = "8 bar";
        AreaGoals x = sea(5, 6);
        due("bar(-1)", false, x.bar(-1));
        due("bar(2)", false, x.bar(2));
        due("bar(33)", false, x.bar(33));
        x.size(1);
        due("bar(0)", true, x.bar(0));
        due("bar(0), again", true, x.bar(0));
        due("run(2)", 0, x.run(2));
        dueChosen(x, "1");
        x.must(1);
        due("bar(1): must be no longer", true, x.bar(1));
        due("run(1)", 1, x.run(1));
        x.size(0);
        due("run(1)", 0, x.run(1));
        dueChosen(x, "");
        due("improve(9): begins with none", 0, x.improve(9));
        dueChosen(x, "");
    }

    private static void zone() {
        promise = "9 zone";
        AreaGoals x = sea(0, 0, 0, 0, 0, 0);
        due("zone before any choice", NONE, x.zone(0, 0));
        x.must(0);
        x.must(4);
        x.must(5);
        x.holds(0, 2, 1, 1);
        x.holds(4, 2, 1, 16);
        x.holds(1, 2, 1, 1);
        x.holds(5, 3, 1, 1);
        x.run(8);
        due("zone(0, 2)", 2, x.zone(0, 2));
        due("zone(1, 2): cell 1 is not chosen, 5 has none", 0, x.zone(1, 2));
        due("zone(1, 3)", 1, x.zone(1, 3));
        due("zone(3, 7)", 0, x.zone(3, 7));
        due("zone(-1, 2)", NONE, x.zone(-1, 2));
        due("zone(4, 2)", NONE, x.zone(4, 2));
        due("zone(0, -1)", NONE, x.zone(0, -1));
        due("zone(0, 8)", NONE, x.zone(0, 8));
        x.holds(4, 2, 0, 1);
        due("zone(0, 2): amounts as they are now", 1, x.zone(0, 2));
        x.run(0);
        due("zone(0, 2): no choice", NONE, x.zone(0, 2));
    }

    private static void run() {
        promise = "10 run";
        AreaGoals x = sea(3, 2, 4);
        due("run(7)", 2, x.run(7));
        due("run(-1)", 2, x.run(-1));
        due("run(min)", 2, x.run(Long.MIN_VALUE));
        due("run(8)", 0, x.run(8));
        due("run(max)", 0, x.run(Long.MAX_VALUE));
        x.must(0);
        due("run(3)", 2, x.run(3));
        due("run(4)", 0, x.run(4));
        x.bar(1);
        due("run(1)", 2, x.run(1));
        due("run(2)", 0, x.run(2));
        dueChosen(x, "0");
        x.size(3);
        due("run(2): none stands", 1, x.run(2));
        dueChosen(x, "");

        AreaGoals wide = new AreaGoals(0);
        for (int c = 0; c < 12; c++) {
            wide.cell(c + 1);
            wide.holds(c, 0, 1, 1);
        }
        wide.goal(0, 1, 4);
        due("run(4095)", 2, wide.run(4095));
        due("run(4096)", 0, wide.run(4096));
        dueChosen(wide, "0 1 2");
        wide.goal(0, 1, 1);
        due("run(4096)", 0, wide.run(4096));
        due("cost(): all of them", 78, wide.cost());
        wide.cell(1);
        due("run(8192): more than 4096", 2, wide.run(8192));
        wide.bar(12);
        due("run(4096)", 0, wide.run(4096));

        AreaGoals none = new AreaGoals(0);
        due("run(1) without cells", 0, none.run(1));
        none.goal(0, 1, 1);
        due("run(1): all of nothing is there", 0, none.run(1));
        none.size(1);
        due("run(1): too few cells", 1, none.run(1));
        due("cost()", NONE, none.cost());
    }

    private static void runTies() {
        promise = "10 run, several of the least cost";
        AreaGoals fewer = sea(2, 1, 1);
        fewer.holds(0, 0, 2, 1);
        fewer.holds(1, 0, 1, 1);
        fewer.holds(2, 0, 1, 1);
        fewer.goal(0, 1, 2);
        fewer.run(8);
        dueChosen(fewer, "0");

        AreaGoals late = sea(1, 1, 2);
        late.holds(0, 0, 1, 1);
        late.holds(1, 0, 1, 1);
        late.holds(2, 0, 2, 1);
        late.goal(0, 1, 2);
        late.run(8);
        dueChosen(late, "2");

        AreaGoals lesser = sea(3, 1, 2, 0);
        for (int c = 0; c < 3; c++) {
            lesser.holds(c, 0, 1, 1);
        }
        lesser.size(2);
        lesser.goal(0, 1, 3);
        lesser.bar(3);
        lesser.run(8);
        dueChosen(lesser, "1 2");

        AreaGoals same = sea(4, 4, 4, 4);
        same.size(2);
        same.run(16);
        dueChosen(same, "0 1");
        same.far(0, 1, -1);
        same.run(16);
        dueChosen(same, "0 2");

        AreaGoals first = sea(5, 4, 3, 2);
        first.size(2);
        first.far(2, 3, -1);
        first.far(1, 3, -1);
        first.run(16);
        due("cost(): 0 3 and 1 2 cost the same", 7, first.cost());
        dueChosen(first, "0 3");
    }

    private static void chosen() {
        promise = "11 chosen";
        AreaGoals x = sea(1, 1);
        due("chosen(0) before", false, x.chosen(0));
        x.must(1);
        x.run(2);
        due("chosen(1)", true, x.chosen(1));
        due("chosen(0)", false, x.chosen(0));
        due("chosen(-31)", false, x.chosen(-31));
        due("chosen(33)", false, x.chosen(33));
        due("chosen(2)", false, x.chosen(2));
        x.bar(1);
        due("chosen(1): stays, whatever is told", true, x.chosen(1));
        x.improve(0);
        due("chosen(1): a refused improve() changed nothing", true, x.chosen(1));
        x.size(2);
        due("improve(1)", NONE, x.improve(1));
        due("chosen(1): no choice then", false, x.chosen(1));
    }

    private static void cost() {
        promise = "12 cost";
        AreaGoals x = sea(10, 20);
        due("cost() before", NONE, x.cost());
        x.near(0, 1, 5);
        x.weight(2);
        x.must(0);
        x.run(2);
        due("cost()", 20, x.cost());
        x.wind(0, 100);
        x.weight(0);
        x.near(0, 1, 0);
        due("cost(): as it was when it was found", 20, x.cost());
        x.improve(1);
        long after = x.cost();
        due("cost() behind improve()", x.chosen(1) ? 130 : 110, after);
        x.run(0);
        due("cost() behind 2", NONE, x.cost());
        x.run(2);
        due("cost()", 110, x.cost());
        x.size(3);
        x.run(2);
        due("cost() behind 1", NONE, x.cost());
    }

    private static void bound() {
        promise = "13 bound";
        AreaGoals x = sea(10, 20, 30);
        due("bound() before", NONE, x.bound());
        x.improve(5);
        due("bound() behind improve() alone", NONE, x.bound());
        x.near(0, 1, 5);
        x.weight(1);
        x.must(0);
        x.must(2);
        x.run(1);
        due("bound() behind 2: without borders", 40, x.bound());
        x.wind(0, 5);
        due("bound(): as told by the run", 40, x.bound());
        x.run(2);
        due("bound() behind 0", 50, x.bound());
        x.improve(3);
        due("bound(): improve() leaves it", 50, x.bound());
        x.size(4);
        x.run(2);
        due("bound() behind 1", NONE, x.bound());
        AreaGoals free = sea(0);
        free.run(2);
        due("bound() of the empty choice", 0, free.bound());
    }

    private static void met() {
        promise = "14 met";
        AreaGoals x = sea(1, 1, 1);
        due("met before", NONE, x.met(0, 0));
        x.must(0);
        x.must(1);
        x.holds(0, 0, 1, 2);
        x.holds(1, 0, 1, 3);
        x.holds(2, 0, 5, 3);
        x.holds(2, 1, 1, 1);
        x.run(2);
        due("met(0, 0): 5/6 of 5/2", 1, x.met(0, 0));
        due("met(0, 1)", 3, x.met(0, 1));
        due("met(1, 0): none of it", 0, x.met(1, 0));
        due("met(1, 1)", 1, x.met(1, 1));
        due("met(2, 0): nothing at all", 0, x.met(2, 0));
        due("met(2, 1)", 1, x.met(2, 1));
        due("met(0, 2)", NONE, x.met(0, 2));
        due("met(0, -1)", NONE, x.met(0, -1));
        due("met(2, 2)", NONE, x.met(2, 2));
        due("met(-1, 0)", NONE, x.met(-1, 0));
        due("met(8, 0)", NONE, x.met(8, 0));
        x.holds(2, 0, 0, 1);
        due("met(0, 0): amounts as they are now", 1, x.met(0, 0));
        due("met(0, 1)", 1, x.met(0, 1));
        x.cell(0);
        x.holds(3, 0, 5, 2);
        due("met(0, 0): a new cell is not in it", 1, x.met(0, 0));
        due("met(0, 1)", 4, x.met(0, 1));
        x.run(0);
        due("met(0, 0) behind 2", NONE, x.met(0, 0));
    }

    private static void clash() {
        promise = "15 clash";
        AreaGoals x = sea(1, 1);
        x.holds(0, 1, 1, 1);
        x.holds(0, 4, 1, 1);
        x.holds(1, 4, 1, 1);
        x.holds(0, 7, 1, 1);
        x.goal(1, 1, 1);
        x.goal(4, 1, 2);
        x.goal(7, 1, 100);
        x.bar(0);
        due("clash(0) before a run", NONE, x.clash(0));
        x.improve(1);
        due("clash(0) behind improve()", NONE, x.clash(0));
        x.run(2);
        due("clash(0)", 1, x.clash(0));
        due("clash(1): 4 is just met", 7, x.clash(1));
        due("clash(2)", NONE, x.clash(2));
        due("clash(-1)", NONE, x.clash(-1));
        due("clash(max)", NONE, x.clash(Integer.MAX_VALUE));
        due("clash(min)", NONE, x.clash(Integer.MIN_VALUE));
        x.must(0);
        x.goal(1, 0, 1);
        due("clash(0): as they were in the run", 1, x.clash(0));
        due("clash(1)", 7, x.clash(1));
        x.run(2);
        due("clash(0)", NONE, x.clash(0));
        x.bar(0);
        x.run(0);
        due("clash(0) behind 2", 7, x.clash(0));
        x.holds(0, 0, 1, 1);
        x.goal(0, 1, 2);
        x.run(2);
        due("clash(0)", 0, x.clash(0));
        due("clash(1)", 7, x.clash(1));
    }

    private static void proved() {
        promise = "16 proved";
        AreaGoals x = sea(1);
        due("proved() before", false, x.proved());
        x.improve(1);
        due("proved() behind improve()", false, x.proved());
        x.run(2);
        due("proved() behind 0", true, x.proved());
        x.improve(1);
        due("proved(): improve() leaves it", true, x.proved());
        x.run(1);
        due("proved() behind 2", false, x.proved());
        x.size(2);
        x.run(2);
        due("proved() behind 1", true, x.proved());
    }

    private static void improve() {
        promise = "17 improve";
        AreaGoals x = new AreaGoals(0);
        x.run(1);
        due("improve(1) without cells", NONE, x.improve(1));
        due("cost(): it changed nothing", 0, x.cost());
        x.cell(5);
        due("improve(0)", NONE, x.improve(0));
        due("improve(-1)", NONE, x.improve(-1));
        due("improve(1001)", NONE, x.improve(1001));
        due("cost(): they changed nothing", 0, x.cost());
        x.must(0);
        due("improve(1000)", 0, x.improve(1000));
        due("cost()", 5, x.cost());
        x.bar(0);
        x.size(1);
        due("improve(1): does not stand", NONE, x.improve(1));
        due("cost(): no choice then", NONE, x.cost());

        AreaGoals one = sea(5);
        due("improve(2): out, and in is not kept", 1, one.improve(2));
        dueChosen(one, "");
        due("improve(1): begins anew with all", 1, one.improve(1));
        AreaGoals same = sea(0);
        due("improve(9): the same cost is not less", 0, same.improve(9));
        dueChosen(same, "0");
        AreaGoals in = sea(0, 3);
        in.bar(1);
        in.near(0, 1, 1);
        in.weight(1);
        due("improve(1000): a barred cell never comes in", 1, in.improve(1000));
        dueChosen(in, "");
    }

    /** The draw written out anew, to tell which cell each step takes. */
    private static int[] drawnCells(long seed, int cells, int steps) {
        int[] drawn = new int[steps];
        long x = seed == 0 ? 88172645463325252L : seed;
        for (int i = 0; i < steps; i++) {
            x = x ^ (x << 13);
            x = x ^ (x >>> 7);
            x = x ^ (x << 17);
            drawn[i] = (int) ((x >>> 1) % cells);
        }
        return drawn;
    }

    private static void improveDraws() {
        promise = "17 improve, the draw";
        for (long seed : new long[] {0, 1, 7, -1, -5, Long.MIN_VALUE, Long.MAX_VALUE}) {
            int[] drawn = drawnCells(seed, 24, 9);
            for (int steps = 1; steps <= 3; steps++) {
                AreaGoals x = new AreaGoals(seed);
                for (int c = 0; c < 24; c++) {
                    x.cell(1);
                }
                x.improve(steps);
                dueOut(x, drawn, 0, steps);
                due("improve(0)", NONE, x.improve(0));
                due("often(0, 21)", NONE, x.often(0, 21));
                x.often(0, 3);
                x.size(25);
                x.size(24);
                due("improve(2): kept", 0, x.improve(2));
                x.size(0);
                x.improve(steps);
                dueOut(x, drawn, steps + 2, steps);
            }
        }
        AreaGoals halted = new AreaGoals(3);
        for (int c = 0; c < 24; c++) {
            halted.cell(1);
        }
        halted.far(0, 1, -1);
        due("improve(5): no step is drawn", NONE, halted.improve(5));
        halted.far(0, 1, 0);
        halted.improve(2);
        dueOut(halted, drawnCells(3, 24, 2), 0, 2);
    }

    /** Each drawn cell costs 1, so it goes out, and never comes back. */
    private static void dueOut(AreaGoals x, int[] drawn, int from, int steps) {
        StringBuilder want = new StringBuilder();
        for (int c = 0; c < 24; c++) {
            boolean out = false;
            for (int i = from; i < from + steps; i++) {
                out |= drawn[i] == c;
            }
            if (!out) {
                want.append(want.length() == 0 ? "" : " ").append(c);
            }
        }
        dueChosen(x, want.toString());
    }

    private static void often() {
        promise = "18 often";
        AreaGoals x = new AreaGoals(0);
        due("often(0, 1) without cells", NONE, x.often(0, 1));
        for (int c = 0; c < 24; c++) {
            x.cell(1);
        }
        for (int c = 0; c < 24; c++) {
            for (int seeds : new int[] {1, 2, 19, 20}) {
                int want = 0;
                for (int seed = 1; seed <= seeds; seed++) {
                    boolean out = false;
                    for (int drawn : drawnCells(seed, 24, 40)) {
                        out |= drawn == c;
                    }
                    want += out ? 0 : 1;
                }
                due("often(" + c + ", " + seeds + ")", want, x.often(c, seeds));
            }
        }
        due("often(-1, 1)", NONE, x.often(-1, 1));
        due("often(24, 1)", NONE, x.often(24, 1));
        due("often(0, 0)", NONE, x.often(0, 0));
        due("often(0, -1)", NONE, x.often(0, -1));
        due("often(0, 21)", NONE, x.often(0, 21));
        x.must(3);
        due("often(3, 20)", 20, x.often(3, 20));
        x.bar(3);
        due("often(3, 20)", 0, x.often(3, 20));
        x.improve(1);
        x.often(0, 1);
        due("unlike(24): the latest choice stays", 22, x.unlike(24));
        x.size(24);
        due("often(0, 1): all that are not barred do not stand", NONE, x.often(0, 1));
        due("unlike(24): the latest choice stays", 22, x.unlike(24));
        due("cost()", 22, x.cost());
    }

    private static void port() {
        promise = "19 port";
        AreaGoals x = sea(1, 1);
        due("cell -1", false, x.port(-1, 0, 1));
        due("cell 2", false, x.port(2, 0, 1));
        due("port -1", false, x.port(0, -1, 1));
        due("port 4", false, x.port(0, 4, 1));
        due("hours -1", false, x.port(0, 0, -1));
        due("hours 10^6 + 1", false, x.port(0, 0, 1000001));
        x.must(0);
        x.run(2);
        due("loss(0, 1)", 1, x.loss(0, 1));
        due("port(0, 3, 10^6)", true, x.port(0, 3, 1000000));
        due("port(1, 3, 1)", true, x.port(1, 3, 1));
        due("loss(3, 0)", 1000000, x.loss(3, 0));
        due("loss(3, 1)", 1000001, x.loss(3, 1));
        due("port(0, 3, 3): told again", true, x.port(0, 3, 3));
        due("loss(3, 0)", 3, x.loss(3, 0));
        due("loss(3, 1)", 4, x.loss(3, 1));
        due("port(0, 3, -1)", false, x.port(0, 3, -1));
        due("loss(3, 0): refused changed nothing", 3, x.loss(3, 0));
        due("port(0, 3, 0)", true, x.port(0, 3, 0));
        due("loss(3, 0)", 0, x.loss(3, 0));
        due("loss(3, 1)", 1, x.loss(3, 1));
    }

    private static void loss() {
        promise = "20 loss";
        AreaGoals x = sea(1, 1, 1);
        due("loss before", NONE, x.loss(0, 0));
        x.must(0);
        x.must(1);
        x.port(0, 0, 4);
        x.port(1, 0, 2);
        x.port(2, 0, 9);
        x.run(2);
        due("loss(0, 0): 6 of 15", 2, x.loss(0, 0));
        due("loss(0, 1)", 5, x.loss(0, 1));
        due("loss(1, 0)", 0, x.loss(1, 0));
        due("loss(1, 1)", 1, x.loss(1, 1));
        x.port(0, 2, 1);
        due("loss(2, 0): 1 of 1", 1, x.loss(2, 0));
        due("loss(2, 1)", 1, x.loss(2, 1));
        x.port(2, 2, 3);
        due("loss(2, 0): 1 of 4", 1, x.loss(2, 0));
        due("loss(2, 1)", 4, x.loss(2, 1));
        due("loss(0, 2)", NONE, x.loss(0, 2));
        due("loss(0, -1)", NONE, x.loss(0, -1));
        due("loss(-1, 0)", NONE, x.loss(-1, 0));
        due("loss(4, 0)", NONE, x.loss(4, 0));
        x.port(2, 0, 0);
        due("loss(0, 0): hours as they are now", 1, x.loss(0, 0));
        due("loss(0, 1)", 1, x.loss(0, 1));
        x.run(0);
        due("loss(0, 0) behind 2", NONE, x.loss(0, 0));
    }

    private static void fair() {
        promise = "21 fair";
        AreaGoals untold = sea(1);
        untold.port(0, 0, 5);
        untold.size(1);
        due("run(2): all hours are lost, no fair share was told", 0, untold.run(2));
        untold.fair(99, 100);
        due("run(2)", 1, untold.run(2));
        AreaGoals x = sea(1, 2, 3);
        due("above -1", false, x.fair(-1, 1));
        due("above > below", false, x.fair(2, 1));
        due("below 0", false, x.fair(0, 0));
        due("below 101", false, x.fair(1, 101));
        x.port(0, 3, 2);
        x.port(1, 3, 1);
        x.port(2, 3, 1);
        x.size(1);
        x.run(8);
        dueChosen(x, "0");
        due("fair(1, 2): just at it", true, x.fair(1, 2));
        x.run(8);
        dueChosen(x, "0");
        due("fair(49, 100)", true, x.fair(49, 100));
        x.run(8);
        dueChosen(x, "1");
        due("fair(2, 1)", false, x.fair(2, 1));
        x.run(8);
        dueChosen(x, "1");
        due("fair(24, 100)", true, x.fair(24, 100));
        due("run(8)", 1, x.run(8));
        due("fair(0, 1)", true, x.fair(0, 1));
        due("run(8)", 1, x.run(8));
        x.port(2, 3, 0);
        due("run(8)", 0, x.run(8));
        dueChosen(x, "2");
        due("improve(3): all are not fair", NONE, x.improve(3));
        due("fair(100, 100)", true, x.fair(100, 100));
        x.run(8);
        dueChosen(x, "0");
        for (int port = 0; port < 4; port++) {
            AreaGoals one = sea(1, 2);
            one.size(1);
            one.port(0, port, 3);
            one.port(1, port, 2);
            one.fair(1, 2);
            one.run(4);
            dueChosen(one, "1");
        }
    }

    private static void border() {
        promise = "22 border";
        AreaGoals x = sea(0, 0, 0, 0);
        due("border() before", NONE, x.border());
        x.must(0);
        x.must(1);
        x.near(0, 1, 100);
        x.near(0, 2, 10);
        x.near(1, 2, 1);
        x.near(2, 3, 1000);
        x.run(4);
        due("border()", 11, x.border());
        x.weight(5);
        due("border(): no weight", 11, x.border());
        x.near(1, 3, 4);
        due("border(): as they are now", 15, x.border());
        x.cell(0);
        x.near(4, 0, 200);
        due("border(): with a new cell", 215, x.border());
        x.run(0);
        due("border() behind 2", NONE, x.border());
    }

    private static void size() {
        promise = "23 size";
        AreaGoals x = sea(1, 2, 3);
        due("size(-1)", NONE, x.size(-1));
        due("size(25)", NONE, x.size(25));
        due("size(min)", NONE, x.size(Integer.MIN_VALUE));
        x.run(8);
        dueChosen(x, "");
        due("size(2)", 3, x.size(2));
        x.run(8);
        dueChosen(x, "0 1");
        due("size(25)", NONE, x.size(25));
        x.run(8);
        dueChosen(x, "0 1");
        due("size(24)", 3, x.size(24));
        due("run(8)", 1, x.run(8));
        due("size(0)", 3, x.size(0));
        x.run(8);
        dueChosen(x, "");
    }

    private static void year() {
        promise = "24 year";
        AreaGoals x = sea(5, 3, 5, 1, 9, 5);
        due("year(0) before", NONE, x.year(0));
        for (int c = 0; c < 6; c++) {
            if (c != 4) {
                x.must(c);
            }
        }
        x.run(2);
        due("year(3)", 0, x.year(3));
        due("year(1)", 0, x.year(1));
        due("year(0)", 1, x.year(0));
        due("year(2)", 1, x.year(2));
        due("year(5)", 2, x.year(5));
        due("year(4): not in it", NONE, x.year(4));
        due("year(-1)", NONE, x.year(-1));
        due("year(6)", NONE, x.year(6));
        due("year(35)", NONE, x.year(35));
        x.wind(3, 100);
        due("year(3): costs as they are now", 2, x.year(3));
        due("year(0)", 0, x.year(0));
        due("year(5)", 1, x.year(5));
        x.run(0);
        due("year(3) behind 2", NONE, x.year(3));
    }

    private static void wind() {
        promise = "25 wind";
        AreaGoals x = sea(1000000, 1);
        due("wind(-1, 1)", false, x.wind(-1, 1));
        due("wind(2, 1)", false, x.wind(2, 1));
        due("wind(0, -1)", false, x.wind(0, -1));
        due("wind(0, 10^6 + 1)", false, x.wind(0, 1000001));
        due("wind(0, max)", false, x.wind(0, Long.MAX_VALUE));
        x.must(0);
        x.run(2);
        due("cost()", 1000000, x.cost());
        due("wind(0, 0)", true, x.wind(0, 0));
        for (int i = 0; i < 9; i++) {
            due("wind(0, 10^6)", true, x.wind(0, 1000000));
        }
        x.run(2);
        due("cost()", 10000000, x.cost());
        due("wind(0, 1): above 10^7", false, x.wind(0, 1));
        due("wind(0, 0)", true, x.wind(0, 0));
        x.run(2);
        due("cost()", 10000000, x.cost());
        x.must(1);
        due("wind(1, 7)", true, x.wind(1, 7));
        x.run(1);
        due("cost()", 10000008, x.cost());
    }

    private static void unlike() {
        promise = "26 unlike";
        AreaGoals x = sea(1, 1, 1);
        due("unlike(0)", 0, x.unlike(0));
        due("unlike(-1)", NONE, x.unlike(-1));
        due("unlike(25)", NONE, x.unlike(25));
        x.must(0);
        x.run(4);
        due("unlike(24): nothing was before", 1, x.unlike(24));
        due("unlike(1)", 1, x.unlike(1));
        due("unlike(0)", 0, x.unlike(0));
        x.bar(0);
        x.must(2);
        due("unlike(3): stays, whatever is told", 1, x.unlike(3));
        x.run(2);
        due("unlike(3): 0 and 2", 2, x.unlike(3));
        due("unlike(2)", 1, x.unlike(2));
        x.improve(0);
        due("unlike(3): refused changed nothing", 2, x.unlike(3));
        x.run(2);
        due("unlike(3): the same again", 0, x.unlike(3));
        x.run(0);
        due("unlike(3): no choice, and 2", 1, x.unlike(3));
        x.run(0);
        due("unlike(3): no choice twice", 0, x.unlike(3));
        x.must(0);
        x.must(1);
        x.improve(1);
        due("unlike(3): all, and no choice", 3, x.unlike(3));
        x.far(0, 1, -1);
        x.improve(1);
        due("unlike(3): no choice, and all", 3, x.unlike(3));
        due("unlike(24)", 3, x.unlike(24));
    }

    private static void far() {
        promise = "27 far";
        AreaGoals x = sea(1, 2, 3);
        due("far(0, 0, -1)", false, x.far(0, 0, -1));
        due("far(3, 0, -1)", false, x.far(3, 0, -1));
        due("far(0, 3, -1)", false, x.far(0, 3, -1));
        due("far(-1, 0, -1)", false, x.far(-1, 0, -1));
        due("far(0, -1, -1)", false, x.far(0, -1, -1));
        x.size(2);
        due("far(1, 0, -1)", true, x.far(1, 0, -1));
        x.run(8);
        dueChosen(x, "0 2");
        due("far(0, 2, min)", true, x.far(0, 2, Integer.MIN_VALUE));
        x.run(8);
        dueChosen(x, "1 2");
        due("far(0, 1, 0): not any more", true, x.far(0, 1, 0));
        x.run(8);
        dueChosen(x, "0 1");
        x.size(3);
        due("run(8)", 1, x.run(8));
        due("improve(2)", NONE, x.improve(2));
        due("far(2, 0, 5)", true, x.far(2, 0, 5));
        due("run(8)", 0, x.run(8));
        dueChosen(x, "0 1 2");

        AreaGoals pair = sea(0, 0);
        pair.must(1);
        pair.run(2);
        due("tie(0): they can be together", 0, pair.tie(0));
        pair.far(1, 0, -1);
        due("tie(0): they are too far", NONE, pair.tie(0));
        pair.far(1, 0, 1);
        due("tie(0): not any more", 0, pair.tie(0));
        pair.far(0, 1, -1);
        due("tie(0): too far, from the other side", NONE, pair.tie(0));
        pair.far(0, 1, 0);
        due("tie(0): not any more", 0, pair.tie(0));
    }

    private static void tie() {
        promise = "28 tie";
        AreaGoals x = sea(0, 5, 0, 0, 0, 0);
        due("tie(0) before", NONE, x.tie(0));
        x.must(2);
        x.bar(3);
        x.run(16);
        dueChosen(x, "2");
        due("tie(0)", 0, x.tie(0));
        due("tie(1): 1 costs, 2 must be, 3 is barred", 4, x.tie(1));
        due("tie(2)", 5, x.tie(2));
        due("tie(3)", NONE, x.tie(3));
        due("tie(-1)", NONE, x.tie(-1));
        due("tie(min)", NONE, x.tie(Integer.MIN_VALUE));
        x.far(2, 5, -1);
        due("tie(2): 5 would not stand", NONE, x.tie(2));
        x.near(1, 2, 5);
        x.weight(1);
        due("tie(1): 1 in costs 5 and saves 5", 1, x.tie(1));
        x.wind(4, 1);
        due("tie(0)", 0, x.tie(0));
        due("tie(2): by costs as they are now", NONE, x.tie(2));
        x.cell(0);
        due("tie(2): a new cell", 6, x.tie(2));
        x.size(2);
        due("tie(2): 2 is too few, 3 with one more is not", 6, x.tie(2));
        x.size(3);
        due("tie(0): one more is too few", NONE, x.tie(0));
        x.size(0);
        x.run(0);
        due("tie(0) behind 2", NONE, x.tie(0));

        AreaGoals out = sea(0, 0, 0);
        out.improve(5);
        dueChosen(out, "0 1 2");
        due("tie(2): out at the same cost", 2, out.tie(2));
        out.size(3);
        due("tie(0): none can go out", NONE, out.tie(0));
        out.size(0);
        out.wind(1, 3);
        due("tie(1): the cost now, not when it was found", 2, out.tie(1));
    }
}
