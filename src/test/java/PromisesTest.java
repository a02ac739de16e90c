/**
 * One method a promise, by its number: ordinary inputs, the edges of the document, wrong inputs. No object
 * is asked more than 512 times, as what it answers then is free.
 */
public final class PromisesTest {
    private static final int NONE = SearchGrids.NONE;
    private static int wrong = 0;
    private static int promise = 0;

    private static void due(String call, long got, long want) {
        if (got != want) {
            wrong++;
            System.out.println("promise " + promise + ": " + call + " answered " + got + ", due is " + want);
        }
    }

    private static void due(String call, boolean got, boolean want) {
        due(call, got ? 1 : 0, want ? 1 : 0);
    }

    private static void dueOdds(SearchGrids x, int cell, long above, long below) {
        due("odds(" + cell + ", 0)", x.odds(cell, 0), above);
        due("odds(" + cell + ", 1)", x.odds(cell, 1), below);
    }

    private static void dueAfter(SearchGrids x, int cell, long above, long below) {
        due("after(" + cell + ", 0)", x.after(cell, 0), above);
        due("after(" + cell + ", 1)", x.after(cell, 1), below);
    }

    private static void dueFound(SearchGrids x, long above, long below) {
        due("found(0)", x.found(0), above);
        due("found(1)", x.found(1), below);
    }

    /** The whole plan of lookers 0, 1, .. in cells 0, 1, .., written row by row. */
    private static void duePlan(SearchGrids x, String when, int[][] hours) {
        for (int looker = 0; looker < hours.length; looker++) {
            for (int cell = 0; cell < hours[looker].length; cell++) {
                due("of(" + looker + ", " + cell + ") " + when, x.of(looker, cell), hours[looker][cell]);
            }
        }
    }

    /** Cells 0 and 1 with counts 6 and 4 and areas 12 and 10, a looker of 2 squares and one of 3. */
    private static SearchGrids twoCells() {
        SearchGrids x = new SearchGrids(5);
        x.counts(0, 6);
        x.counts(1, 4);
        x.area(0, 12);
        x.area(1, 10);
        x.looker(2, 1, 3);
        x.looker(1, 3, 2);
        return x;
    }

    /** 40 told cells, 0 to 39, of 50, each with a count of 1. */
    private static SearchGrids fortyCells() {
        SearchGrids x = new SearchGrids(50);
        for (int cell = 0; cell < 40; cell++) {
            x.counts(cell, 1);
        }
        return x;
    }

    private static void aNewObject() {
        int[][] sizes = {{1, 1}, {0, 1}, {-1, 1}, {Integer.MIN_VALUE, 1}, {2, 2}, {65535, 65535},
            {65536, 65536}, {65537, 65536}, {Integer.MAX_VALUE, 65536}};
        for (int[] size : sizes) {
            SearchGrids x = new SearchGrids(size[0]);
            String made = " of new SearchGrids(" + size[0] + ")";
            due("odds(last cell, 0)" + made, x.odds(size[1] - 1, 0), 0);
            due("odds(last cell + 1, 0)" + made, x.odds(size[1], 0), NONE);
            due("order(0)" + made, x.order(0), NONE);
            due("covers(0)" + made, x.covers(0), false);
            due("line(0, 0, 0)" + made, x.line(0, 0, 0), NONE);
            due("counts(last cell, 1)" + made, x.counts(size[1] - 1, 1), true);
            due("counts(last cell + 1, 1)" + made, x.counts(size[1], 1), false);
            due("counts(-1, 1)" + made, x.counts(-1, 1), false);
        }
        due("NONE", SearchGrids.NONE, -1);
    }

    private static void countsOfThing0() {
        SearchGrids x = new SearchGrids(3);
        due("counts(0, 0)", x.counts(0, 0), true);
        due("order(0), told by a count of 0", x.order(0), 0);
        due("counts(0, 1000)", x.counts(0, 1000), true);
        due("counts(1, 500)", x.counts(1, 500), true);
        dueOdds(x, 0, 2, 3);
        due("counts(0, 1001)", x.counts(0, 1001), false);
        due("counts(0, -1)", x.counts(0, -1), false);
        due("counts(0, 2^32)", x.counts(0, 1L << 32), false);
        due("counts(3, 1)", x.counts(3, 1), false);
        due("counts(-1, 1)", x.counts(-1, 1), false);
        dueOdds(x, 0, 2, 3);
        due("counts(0, 250), told anew", x.counts(0, 250), true);
        dueOdds(x, 0, 1, 3);
    }

    private static void oddsOfThing0() {
        SearchGrids x = new SearchGrids(4);
        dueOdds(x, 0, 0, 1);
        x.counts(0, 0);
        dueOdds(x, 0, 0, 1);
        x.counts(1, 6);
        dueOdds(x, 1, 1, 1);
        x.counts(2, 9);
        dueOdds(x, 0, 0, 1);
        dueOdds(x, 1, 2, 5);
        dueOdds(x, 2, 3, 5);
        dueOdds(x, 3, 0, 1);
        x.thing();
        x.countsOf(1, 1, 100);
        dueOdds(x, 1, 2, 5);
        x.looker(60, 1, 1);
        x.look(0, 1, 1, 0);
        dueOdds(x, 1, 2, 5);
        due("odds(4, 0)", x.odds(4, 0), NONE);
        due("odds(-1, 1)", x.odds(-1, 1), NONE);
        due("odds(1, 2)", x.odds(1, 2), NONE);
        due("odds(1, -1)", x.odds(1, -1), NONE);
        x.seen(1, 0);
        dueOdds(x, 1, 1, 1);
        dueOdds(x, 2, 0, 1);
        dueOdds(x, 3, 0, 1);
    }

    private static void lookers() {
        SearchGrids x = new SearchGrids(2);
        x.counts(0, 1);
        long[][] bad = {{0, 1, 1}, {1, 0, 1}, {1001, 1, 1}, {1, 1001, 1}, {-1, -1, 1}, {40, 26, 1}, {1, 1, 0},
            {1, 1, 25}, {1, 1, -1}, {1L << 32, 1L << 32, 1}, {Long.MIN_VALUE, 2, 1}, {1, Long.MAX_VALUE, 1}};
        for (long[] b : bad) {
            due("looker(" + b[0] + ", " + b[1] + ", " + b[2] + ")", x.looker(b[0], b[1], (int) b[2]), NONE);
        }
        due("looker(40, 25, 24)", x.looker(40, 25, 24), 0);
        due("looker(1000, 1, 1)", x.looker(1000, 1, 1), 1);
        due("looker(1, 1000, 1)", x.looker(1, 1000, 1), 2);
        x.share(1);
        due("looker(0, 1, 1)", x.looker(0, 1, 1), NONE);
        due("of(0, 0), left by a refusal", x.of(0, 0), 1);
        due("looker(3, 1, 1)", x.looker(3, 1, 1), 3);
        due("of(0, 0), dropped by a looker", x.of(0, 0), 0);
        due("looker(1, 1, 1), the fifth", x.looker(1, 1, 1), NONE);
        due("bar(4, 0)", x.bar(4, 0), false);

        SearchGrids y = new SearchGrids(1);
        y.counts(0, 1);
        y.looker(1, 1, 1);
        y.look(0, 0, 1, 0);
        due("looker(1, 1, 1) behind a look", y.looker(1, 1, 1), NONE);

        // A looker of 2 times 3 squares an hour finds 6 of 60 in the one hour that it has.
        SearchGrids z = new SearchGrids(1);
        z.counts(0, 1);
        z.looker(2, 3, 1);
        due("share(5)", z.share(5), 1);
        dueFound(z, 1, 10);
    }

    private static void bars() {
        SearchGrids x = new SearchGrids(1);
        x.counts(0, 1);
        due("bar(0, 0) of none", x.bar(0, 0), false);
        x.looker(1, 1, 3);
        due("bar(0, 23), behind its hours", x.bar(0, 23), true);
        due("bar(0, 3), behind its hours", x.bar(0, 3), true);
        due("share(9)", x.share(9), 3);
        due("bar(0, 24)", x.bar(0, 24), false);
        due("bar(0, -1)", x.bar(0, -1), false);
        due("bar(1, 0)", x.bar(1, 0), false);
        due("bar(-1, 0)", x.bar(-1, 0), false);
        due("of(0, 0), left by refusals", x.of(0, 0), 3);
        due("bar(0, 2)", x.bar(0, 2), true);
        due("of(0, 0), dropped", x.of(0, 0), 0);
        due("share(9)", x.share(9), 2);
        due("bar(0, 2), as it was", x.bar(0, 2), true);
        due("of(0, 0), dropped", x.of(0, 0), 0);
        due("share(9)", x.share(9), 2);
        x.bar(0, 0);
        x.bar(0, 1);
        due("share(9) without hours of use", x.share(9), 0);
    }

    private static void shares() {
        SearchGrids x = twoCells();
        due("share(-1)", x.share(-1), NONE);
        due("share(101)", x.share(101), NONE);
        due("share(0)", x.share(0), 0);
        // Gains: looker 1 in cell 0 1.5, in cell 1 1.2; looker 0 in cell 0 1, in cell 1 0.8.
        due("share(1)", x.share(1), 1);
        duePlan(x, "share(1)", new int[][] {{0, 0}, {1, 0}});
        // Then looker 1 in cell 0 again, 1.5, while looker 0 would gain 0.75 there.
        due("share(2)", x.share(2), 2);
        duePlan(x, "share(2)", new int[][] {{0, 0}, {2, 0}});
        // Then looker 0: in cell 1 0.8 each, three times; in cell 0 only 0.5.
        due("share(101)", x.share(101), NONE);
        duePlan(x, "left by a refusal", new int[][] {{0, 0}, {2, 0}});
        due("share(100)", x.share(100), 5);
        duePlan(x, "share(100)", new int[][] {{0, 3}, {2, 0}});
        due("share(0) again", x.share(0), 0);
        duePlan(x, "share(0)", new int[][] {{0, 0}, {0, 0}});

        sharesAlike();
        sharesAsLongAsItGains();
        sharesForAllThings();
        looksLeaveThePlan();
    }

    /** Of the same gain the lesser looker, then the lesser cell, though told last. */
    private static void sharesAlike() {
        SearchGrids x = new SearchGrids(3);
        x.counts(2, 7);
        x.counts(0, 7);
        x.counts(1, 7);
        x.looker(60, 1, 2);
        x.looker(1, 60, 2);
        x.share(1);
        duePlan(x, "share(1)", new int[][] {{1, 0, 0}, {0, 0, 0}});
        x.share(2);
        duePlan(x, "share(2)", new int[][] {{1, 1, 0}, {0, 0, 0}});
        x.share(3);
        duePlan(x, "share(3)", new int[][] {{1, 1, 0}, {0, 0, 1}});
    }

    private static void sharesAsLongAsItGains() {
        SearchGrids x = new SearchGrids(3);
        x.counts(0, 1);
        x.counts(1, 0);
        x.area(2, 1);
        x.looker(20, 1, 24);
        due("share(100), until all of the one weight is found", x.share(100), 3);
        duePlan(x, "share(100)", new int[][] {{3, 0, 0}});
        dueFound(x, 1, 1);

        // The last hour gains the least that there is, 1 over 720 to the fourth.
        SearchGrids y = smallestParts();
        due("share(4)", y.share(4), 4);
        dueFound(y, 268738559999L, 268738560000L);
        due("share(100), down to the smallest gain", y.share(100), 5);
        dueFound(y, 1, 1);
    }

    /** One count in 720 squares, and lookers who leave one square an hour; only the last has a second hour. */
    private static SearchGrids smallestParts() {
        SearchGrids x = new SearchGrids(2);
        x.counts(0, 1);
        x.area(0, 720);
        x.looker(719, 1, 1);
        x.looker(719, 1, 1);
        x.looker(719, 1, 1);
        x.looker(719, 1, 2);
        return x;
    }

    private static void sharesForAllThings() {
        SearchGrids x = new SearchGrids(2);
        x.counts(0, 5);
        x.counts(1, 4);
        x.looker(60, 1, 1);
        x.share(1);
        duePlan(x, "by thing 0", new int[][] {{1, 0}});
        x.thing();
        x.countsOf(1, 1, 2);
        x.share(1);
        duePlan(x, "by both things", new int[][] {{0, 1}});
    }

    private static void looksLeaveThePlan() {
        SearchGrids x = new SearchGrids(2);
        x.counts(0, 5);
        x.counts(1, 4);
        x.looker(60, 1, 1);
        x.share(1);
        x.look(0, 0, 1, 0);
        duePlan(x, "behind a look", new int[][] {{1, 0}});
        x.share(1);
        duePlan(x, "made anew behind a look", new int[][] {{1, 0}});
    }

    private static void hoursOfThePlan() {
        SearchGrids x = twoCells();
        duePlan(x, "before share()", new int[][] {{0, 0, 0, 0, 0}, {0, 0, 0, 0, 0}});
        x.share(100);
        due("of(0, 1)", x.of(0, 1), 3);
        due("of(1, 0)", x.of(1, 0), 2);
        due("of(0, 4), a cell that is not told", x.of(0, 4), 0);
        due("of(0, 5)", x.of(0, 5), NONE);
        due("of(0, -1)", x.of(0, -1), NONE);
        due("of(2, 0)", x.of(2, 0), NONE);
        due("of(-1, 0)", x.of(-1, 0), NONE);
    }

    private static void triedPlans() {
        SearchGrids none = new SearchGrids(1);
        due("tried() of a plan of none", none.tried(), true);

        // Looker 0 finds all of cell 0, and looker 1 what it can of cell 1: nothing else finds more.
        SearchGrids x = new SearchGrids(2);
        x.counts(0, 100);
        x.counts(1, 90);
        x.area(0, 60);
        x.area(1, 720);
        x.looker(60, 1, 1);
        x.looker(50, 1, 1);
        due("share(1)", x.share(1), 1);
        due("tried() of 1 hour", x.tried(), true);
        due("share(2)", x.share(2), 2);
        duePlan(x, "share(2)", new int[][] {{1, 0}, {0, 1}});
        due("tried() of 2 hours", x.tried(), true);

        // Looker 0 is enough for the lesser cell, and the stronger looker 1 is left for the greater one.
        SearchGrids y = new SearchGrids(2);
        y.counts(0, 10);
        y.counts(1, 9);
        y.area(0, 30);
        y.area(1, 60);
        y.looker(30, 1, 1);
        y.looker(60, 1, 1);
        y.share(2);
        duePlan(y, "share(2)", new int[][] {{1, 0}, {0, 1}});
        due("tried() of the best plan", y.tried(), true);

        // The other way round the stronger one is given away first, as the lesser looker of the same gain.
        SearchGrids z = new SearchGrids(2);
        z.counts(0, 10);
        z.counts(1, 9);
        z.area(0, 30);
        z.area(1, 60);
        z.looker(60, 1, 1);
        z.looker(30, 1, 1);
        z.share(2);
        duePlan(z, "share(2)", new int[][] {{1, 0}, {0, 1}});
        due("tried() of a plan that is outdone", z.tried(), false);
        due("tried() of the same again", z.tried(), false);
        z.bar(1, 0);
        z.share(2);
        due("tried() when the other looker has no hour of use", z.tried(), true);

        // The same with the cells the other way round, so that the better plan begins in the first cell.
        SearchGrids w = new SearchGrids(2);
        w.counts(0, 9);
        w.counts(1, 10);
        w.area(1, 30);
        w.looker(60, 1, 1);
        w.looker(30, 1, 1);
        w.share(2);
        duePlan(w, "share(2)", new int[][] {{0, 1}, {1, 0}});
        due("tried() of a plan that is outdone from the first cell on", w.tried(), false);

        SearchGrids v = twoCells();
        v.share(1);
        due("tried() of 1 hour of lookers who miss much", v.tried(), true);
        v.share(2);
        due("tried() of 2 hours of lookers who miss much", v.tried(), true);
        v.look(0, 0, 100, 0);
        due("tried() behind a look", v.tried(), true);

        triedEdges();
    }

    /** 12 places and 5 hours are tried, 13 or 14 places or 6 hours are not. */
    private static void triedEdges() {
        SearchGrids x = new SearchGrids(20);
        for (int cell = 0; cell < 12; cell++) {
            x.counts(cell, 1 + cell);
        }
        x.looker(7, 1, 24);
        due("share(5)", x.share(5), 5);
        due("tried() of 12 places, 5 hours", x.tried(), true);
        due("share(6)", x.share(6), 6);
        due("tried() of 6 hours", x.tried(), false);
        x.share(0);
        due("tried() of no hours in 12 places", x.tried(), true);
        x.area(12, 1);
        due("tried() of no hours in 13 places", x.tried(), false);
        x.share(1);
        due("tried() of 13 places", x.tried(), false);

        SearchGrids y = fortyCells();
        due("tried() of 40 cells without lookers", y.tried(), true);
    }

    private static void looks() {
        SearchGrids x = twoCells();
        due("look(2, 0, 1, 0)", x.look(2, 0, 1, 0), NONE);
        due("look(-1, 0, 1, 0)", x.look(-1, 0, 1, 0), NONE);
        due("look(0, 2, 1, 0), not told", x.look(0, 2, 1, 0), NONE);
        due("look(0, 5, 1, 0)", x.look(0, 5, 1, 0), NONE);
        due("look(0, -1, 1, 0)", x.look(0, -1, 1, 0), NONE);
        due("look(0, 0, 0, 0)", x.look(0, 0, 0, 0), NONE);
        due("look(0, 0, 101, 0)", x.look(0, 0, 101, 0), NONE);
        due("look(0, 0, 2^32 + 1, 0)", x.look(0, 0, (1L << 32) + 1, 0), NONE);
        due("look(0, 0, 1, -1)", x.look(0, 0, 1, -1), NONE);
        due("look(0, 0, 1, least)", x.look(0, 0, 1, Long.MIN_VALUE), NONE);
        due("log(0, 3), nothing told by refusals", x.log(0, 3), NONE);
        due("area(0, 12), nothing looked", x.area(0, 12), true);
        dueAfter(x, 0, 3, 5);
        due("look(0, 0, 1, 0)", x.look(0, 0, 1, 0), 0);
        due("look(1, 1, 100, greatest)", x.look(1, 1, 100, Long.MAX_VALUE), 1);
        for (int number = 2; number < 200; number++) {
            due("look " + number, x.look(0, 1, 1, 7), number);
        }
        due("look(0, 0, 1, 0), the 201st", x.look(0, 0, 1, 0), NONE);
        due("log(199, 3)", x.log(199, 3), 1);
        due("log(200, 3)", x.log(200, 3), NONE);
        x.seen(0, 0);

        SearchGrids y = twoCells();
        y.look(0, 0, 1, 0);
        y.seen(0, 0);
        due("look(0, 0, 1, 0) when it was seen", y.look(0, 0, 1, 0), NONE);
        due("log(1, 3)", y.log(1, 3), NONE);
    }

    private static void oddsAfterLooks() {
        SearchGrids x = twoCells();
        dueAfter(x, 0, 3, 5);
        dueAfter(x, 2, 0, 1);
        // Cell 0 keeps 6 times 8/12, cell 1 its 4.
        x.look(0, 0, 1, 0);
        x.look(0, 0, 1, 0);
        dueAfter(x, 0, 1, 2);
        dueAfter(x, 1, 1, 2);
        // Looker 1 misses 9/12 of what looker 0 missed: 6 times 8/12 times 9/12 is 3.
        x.look(1, 0, 1, 0);
        dueAfter(x, 0, 3, 7);
        dueAfter(x, 1, 4, 7);
        due("after(5, 0)", x.after(5, 0), NONE);
        due("after(-1, 0)", x.after(-1, 0), NONE);
        due("after(0, 2)", x.after(0, 2), NONE);
        due("after(0, -1)", x.after(0, -1), NONE);
        // Hours above the area look over no more than it.
        x.look(0, 0, 100, 0);
        dueAfter(x, 0, 0, 1);
        dueAfter(x, 1, 1, 1);
        x.look(0, 1, 100, 0);
        dueAfter(x, 0, 0, 1);
        dueAfter(x, 1, 0, 1);
        x.counts(3, 5);
        dueAfter(x, 3, 1, 1);
        x.thing();
        x.countsOf(1, 4, 5);
        dueAfter(x, 4, 0, 1);
        x.seen(0, 0);
        dueAfter(x, 0, 1, 1);
        dueAfter(x, 3, 0, 1);
        dueAfter(x, 2, 0, 1);
    }

    private static void oddsThatSum() {
        SearchGrids x = new SearchGrids(3);
        due("sums() without counts", x.sums(), false);
        x.counts(0, 0);
        due("sums() of a count of 0", x.sums(), false);
        x.thing();
        x.countsOf(1, 0, 5);
        due("sums() of counts of another thing", x.sums(), false);
        x.counts(0, 3);
        x.counts(1, 7);
        due("sums()", x.sums(), true);
        x.looker(60, 1, 1);
        x.look(0, 0, 1, 0);
        due("sums() with one cell looked over", x.sums(), true);
        x.look(0, 1, 1, 0);
        due("sums() with all looked over", x.sums(), false);
        x.seen(1, 0);
        due("sums() when it was seen", x.sums(), true);
        SearchGrids y = smallestParts();
        for (int looker = 0; looker < 4; looker++) {
            y.look(looker, 0, 1, 0);
        }
        due("sums() of the smallest part", y.sums(), true);
        dueAfter(y, 0, 1, 1);
    }

    private static void whatThePlanFinds() {
        SearchGrids x = new SearchGrids(3);
        dueFound(x, 0, 1);
        x.counts(0, 0);
        dueFound(x, 0, 1);
        x = twoCells();
        dueFound(x, 0, 1);
        x.share(1);
        // 6 times 3/12 of 10.
        dueFound(x, 3, 20);
        x.share(100);
        // 6 times 6/12 and 4 times 6/10 of 10.
        dueFound(x, 27, 50);
        x.look(0, 0, 100, 0);
        dueFound(x, 27, 50);
        due("found(2)", x.found(2), NONE);
        due("found(-1)", x.found(-1), NONE);
        x.thing();
        dueFound(x, 0, 1);
        x.countsOf(1, 2, 10);
        x.share(1);
        // Looker 1 gains 1.5 in cell 0 and 0.5 in cell 2; the weights are 20.
        dueFound(x, 3, 40);

        // Two lookers in one cell miss the product: 1/2 times 1/3.
        SearchGrids y = new SearchGrids(1);
        y.counts(0, 5);
        y.area(0, 6);
        y.looker(3, 1, 1);
        y.looker(4, 1, 1);
        y.share(2);
        dueFound(y, 5, 6);

        // The greatest numbers: 40 cells of weight 4000 and area 720, four lookers who miss odd parts.
        SearchGrids z = new SearchGrids(40);
        for (int thing = 1; thing < 4; thing++) {
            z.thing();
        }
        for (int cell = 0; cell < 40; cell++) {
            for (int thing = 0; thing < 4; thing++) {
                z.countsOf(thing, cell, 1000);
            }
            z.area(cell, 720);
        }
        z.looker(719, 1, 24);
        due("share(100)", z.share(100), 24);
        // 24 of 40 cells, each looked over to 719/720.
        dueFound(z, 719, 1200);
    }

    private static void lines() {
        SearchGrids x = new SearchGrids(3);
        due("line(0, 0, 0), not told", x.line(0, 0, 0), NONE);
        x.counts(0, 0);
        // 60 squares in rows of 6, the greatest divisor whose square is not above 60.
        int[][] places = {{0, 0, 0}, {5, 5, 0}, {6, 5, 1}, {11, 0, 1}, {12, 0, 2}, {17, 5, 2}, {59, 0, 9}};
        for (int[] place : places) {
            due("line(0, " + place[0] + ", 0)", x.line(0, place[0], 0), place[1]);
            due("line(0, " + place[0] + ", 1)", x.line(0, place[0], 1), place[2]);
        }
        due("line(0, 60, 0)", x.line(0, 60, 0), NONE);
        due("line(0, -1, 0)", x.line(0, -1, 0), NONE);
        due("line(0, 0, 2)", x.line(0, 0, 2), NONE);
        due("line(0, 0, -1)", x.line(0, 0, -1), NONE);
        due("line(1, 0, 0), not told", x.line(1, 0, 0), NONE);
        due("line(3, 0, 0)", x.line(3, 0, 0), NONE);
        due("line(-1, 0, 0)", x.line(-1, 0, 0), NONE);
        // 9 in rows of 3, 720 in rows of 24, 5 in rows of 1, 1 in a row of 1.
        x.area(1, 9);
        due("line(1, 8, 0) of 9", x.line(1, 8, 0), 2);
        due("line(1, 8, 1) of 9", x.line(1, 8, 1), 2);
        x.area(1, 720);
        due("line(1, 24, 0) of 720", x.line(1, 24, 0), 23);
        due("line(1, 719, 1) of 720", x.line(1, 719, 1), 29);
        due("line(1, 719, 0) of 720", x.line(1, 719, 0), 0);
        x.area(1, 5);
        due("line(1, 4, 1) of 5", x.line(1, 4, 1), 4);
        due("line(1, 4, 0) of 5", x.line(1, 4, 0), 0);
        x.area(1, 1);
        due("line(1, 0, 1) of 1", x.line(1, 0, 1), 0);
        due("line(1, 1, 1) of 1", x.line(1, 1, 1), NONE);
    }

    private static void waysThatCover() {
        SearchGrids x = new SearchGrids(2);
        due("covers(0), not told", x.covers(0), false);
        due("covers(-1)", x.covers(-1), false);
        due("covers(2)", x.covers(2), false);
        x.counts(1, 0);
        due("covers(1) of 60", x.covers(1), true);
        for (int area = 1; area <= 720; area++) {
            if (720 % area == 0) {
                x.area(0, area);
                due("covers(0) of " + area, x.covers(0), true);
                due("the way of " + area + " goes from a square to its neighbour", stepsByOne(area), true);
            }
        }
    }

    private static boolean stepsByOne(int area) {
        boolean fine = true;
        for (int k = 1; k < area; k++) {
            SearchGrids x = new SearchGrids(1);
            x.area(0, area);
            int across = Math.abs(x.line(0, k, 0) - x.line(0, k - 1, 0));
            int down = x.line(0, k, 1) - x.line(0, k - 1, 1);
            fine &= across + down == 1 && down >= 0;
        }
        return fine;
    }

    private static void rests() {
        SearchGrids x = new SearchGrids(1);
        x.counts(0, 1);
        due("rest(0, 0, 1) of none", x.rest(0, 0, 1), false);
        x.looker(1, 1, 10);
        x.share(100);
        due("rest(0, 1, 1)", x.rest(0, 1, 1), false);
        due("rest(0, 2, 1)", x.rest(0, 2, 1), false);
        due("rest(0, -1, 1)", x.rest(0, -1, 1), false);
        due("rest(0, 0, 25)", x.rest(0, 0, 25), false);
        due("rest(0, 24, 24)", x.rest(0, 24, 24), false);
        due("rest(1, 0, 1)", x.rest(1, 0, 1), false);
        due("rest(-1, 0, 1)", x.rest(-1, 0, 1), false);
        due("rest(0, least, greatest)", x.rest(0, Integer.MIN_VALUE, Integer.MAX_VALUE), false);
        due("of(0, 0), left by refusals", x.of(0, 0), 10);
        due("rest(0, 2, 4)", x.rest(0, 2, 4), true);
        due("of(0, 0), dropped", x.of(0, 0), 0);
        due("share(100)", x.share(100), 8);
        due("rest(0, 2, 4), as it was", x.rest(0, 2, 4), true);
        due("of(0, 0), dropped", x.of(0, 0), 0);
        x.bar(0, 3);
        x.bar(0, 4);
        due("share(100), barred in a rest and behind it", x.share(100), 7);
        x.rest(0, 3, 6);
        due("share(100), rests that overlap", x.share(100), 6);
        due("rest(0, 9, 24)", x.rest(0, 9, 24), true);
        due("share(100), a rest beyond its hours", x.share(100), 5);
        due("rest(0, 0, 24)", x.rest(0, 0, 24), true);
        due("share(100), rest all day", x.share(100), 0);
    }

    private static void things() {
        SearchGrids x = new SearchGrids(1);
        x.counts(0, 1);
        x.looker(1, 1, 1);
        x.share(1);
        due("countsOf(1, 0, 1)", x.countsOf(1, 0, 1), false);
        due("thing()", x.thing(), 1);
        due("of(0, 0), dropped by a thing", x.of(0, 0), 0);
        due("countsOf(1, 0, 1)", x.countsOf(1, 0, 1), true);
        due("countsOf(2, 0, 1)", x.countsOf(2, 0, 1), false);
        due("thing()", x.thing(), 2);
        due("thing()", x.thing(), 3);
        x.share(1);
        due("thing(), the fifth", x.thing(), NONE);
        due("of(0, 0), left by a refusal", x.of(0, 0), 1);
        due("countsOf(4, 0, 1)", x.countsOf(4, 0, 1), false);
        dueOdds(x, 0, 1, 1);
        x.look(0, 0, 1, 0);
        x.seen(0, 0);
        SearchGrids y = new SearchGrids(1);
        y.counts(0, 1);
        y.looker(1, 1, 1);
        y.look(0, 0, 1, 0);
        y.seen(0, 0);
        due("thing() when thing 0 was seen", y.thing(), 1);
    }

    private static void countsOfThings() {
        SearchGrids x = fortyCells();
        x.thing();
        due("countsOf(0, 40, 1), the 41st", x.countsOf(0, 40, 1), false);
        due("countsOf(1, 40, 0), the 41st", x.countsOf(1, 40, 0), false);
        due("odds(40, 0)", x.odds(40, 0), 0);
        due("covers(40)", x.covers(40), false);
        due("countsOf(1, 39, 1000), told before", x.countsOf(1, 39, 1000), true);
        due("countsOf(1, 39, 1001)", x.countsOf(1, 39, 1001), false);
        due("countsOf(1, 39, -1)", x.countsOf(1, 39, -1), false);
        due("countsOf(1, 39, greatest)", x.countsOf(1, 39, Long.MAX_VALUE), false);
        due("countsOf(2, 39, 1)", x.countsOf(2, 39, 1), false);
        due("countsOf(-1, 39, 1)", x.countsOf(-1, 39, 1), false);
        due("countsOf(1, 50, 1)", x.countsOf(1, 50, 1), false);
        due("countsOf(1, -1, 1)", x.countsOf(1, -1, 1), false);
        x.looker(60, 1, 1);
        x.share(1);
        due("of(0, 39), by the weight of all things", x.of(0, 39), 1);
        // 1001 of 40 and 1000.
        dueFound(x, 77, 80);
        x.countsOf(1, 39, 1001);
        due("of(0, 39), left by a refusal", x.of(0, 39), 1);
        x.countsOf(1, 39, 1000);
        due("of(0, 39), dropped by the same count", x.of(0, 39), 0);
        x.share(1);
        x.look(0, 39, 1, 0);
        due("countsOf(1, 39, 5) behind a look", x.countsOf(1, 39, 5), true);
        x.seen(39, 0);
        due("countsOf(0, 39, 1) when it was seen", x.countsOf(0, 39, 1), false);
        due("countsOf(1, 39, 1) when thing 0 was seen", x.countsOf(1, 39, 1), false);

        // A thing without counts of thing 0 tells the cell.
        SearchGrids y = new SearchGrids(2);
        y.thing();
        y.countsOf(1, 1, 3);
        due("order(0)", y.order(0), 1);
        dueOdds(y, 1, 0, 1);
    }

    private static void whenToStop() {
        SearchGrids x = new SearchGrids(1);
        x.counts(0, 1);
        long[][] bad = {{-1, 1}, {0, 0}, {2, 1}, {1, 101}, {0, 101}, {0, -1}, {-2, -1},
            {Long.MIN_VALUE, Long.MAX_VALUE}, {1, (1L << 32) + 1}};
        for (long[] b : bad) {
            due("stop(" + b[0] + ", " + b[1] + ")", x.stop(b[0], b[1]), false);
        }
        due("stops(), nothing told by refusals", x.stops(), NONE);
        due("stop(100, 100)", x.stop(100, 100), true);
        due("stops()", x.stops(), 0);
        due("stop(2, 1)", x.stop(2, 1), false);
        due("stops(), left by a refusal", x.stops(), 0);
        due("stop(0, 1)", x.stop(0, 1), true);
        due("stops()", x.stops(), 1);
        due("stop(1, 1)", x.stop(1, 1), true);
        x.looker(1, 1, 1);
        x.share(1);
        x.stop(2, 1);
        due("of(0, 0), left by a refusal", x.of(0, 0), 1);
        x.stop(1, 1);
        due("of(0, 0), dropped by the same", x.of(0, 0), 0);
    }

    private static void mayStop() {
        SearchGrids x = twoCells();
        due("stops(), nothing told", x.stops(), NONE);
        x.stop(3, 20);
        due("stops() before looks", x.stops(), 0);
        // 6 times 2/12 of 10 is 1/10.
        x.look(0, 0, 1, 0);
        due("stops() of 1/10 for 3/20", x.stops(), 0);
        x.stop(1, 10);
        due("stops() of 1/10 for 1/10", x.stops(), 1);
        x.stop(10, 99);
        due("stops() of 1/10 for 10/99", x.stops(), 0);
        x.stop(9, 91);
        due("stops() of 1/10 for 9/91", x.stops(), 1);
        x.stop(1, 1);
        x.look(0, 0, 100, 0);
        due("stops() with one cell looked over", x.stops(), 0);
        x.look(0, 1, 100, 0);
        due("stops() with all looked over", x.stops(), 1);

        SearchGrids y = new SearchGrids(2);
        y.stop(0, 1);
        due("stops() without cells", y.stops(), NONE);
        y.thing();
        y.countsOf(1, 0, 5);
        due("stops() without counts of thing 0", y.stops(), NONE);
        y.counts(0, 1);
        due("stops() with a count", y.stops(), 1);

        SearchGrids z = twoCells();
        z.look(0, 0, 1, 0);
        z.seen(0, 0);
        due("stops() when it was seen and nothing told", z.stops(), NONE);
        z.stop(1, 1);
        due("stops() when it was seen", z.stops(), 1);
    }

    private static void orders() {
        SearchGrids x = new SearchGrids(9);
        due("order(0) of none", x.order(0), NONE);
        x.counts(7, 5);
        x.counts(3, 5);
        x.counts(5, 9);
        x.counts(1, 0);
        x.area(8, 720);
        dueOrder(x, "before looks", new int[] {5, 3, 7, 1, 8});
        due("order(5)", x.order(5), NONE);
        due("order(-1)", x.order(-1), NONE);
        x.counts(1, 10);
        dueOrder(x, "with most in the first", new int[] {1, 5, 3, 7, 8});
        x.counts(1, 0);
        x.looker(30, 1, 1);
        x.look(0, 5, 1, 0);
        dueOrder(x, "with cell 5 at 4.5", new int[] {3, 7, 5, 1, 8});
        x.look(0, 3, 2, 0);
        dueOrder(x, "with cell 3 looked over", new int[] {7, 5, 1, 3, 8});
        x.look(0, 7, 2, 0);
        x.look(0, 5, 2, 0);
        dueOrder(x, "with all looked over", new int[] {1, 3, 5, 7, 8});
        x.seen(7, 0);
        dueOrder(x, "when it was seen", new int[] {7, 1, 3, 5, 8});
    }

    private static void dueOrder(SearchGrids x, String when, int[] cells) {
        for (int k = 0; k < cells.length; k++) {
            due("order(" + k + ") " + when, x.order(k), cells[k]);
        }
    }

    private static void seenThings() {
        SearchGrids x = twoCells();
        x.counts(2, 0);
        x.look(0, 0, 1, 0);
        x.look(0, 2, 1, 0);
        x.share(1);
        due("seen(3, 0), not told", x.seen(3, 0), false);
        due("seen(5, 0)", x.seen(5, 0), false);
        due("seen(-1, 0)", x.seen(-1, 0), false);
        due("seen(0, 2)", x.seen(0, 2), false);
        due("seen(0, -1)", x.seen(0, -1), false);
        due("seen(0, 1), no look of that one", x.seen(0, 1), false);
        due("seen(1, 0), no look there", x.seen(1, 0), false);
        due("seen(2, 0), no count there", x.seen(2, 0), false);
        due("of(1, 0), left by refusals", x.of(1, 0), 1);
        due("after(0, 0) when nothing was seen", x.after(0, 0), 5);
        due("seen(0, 0)", x.seen(0, 0), true);
        due("of(1, 0), dropped", x.of(1, 0), 0);
        x.share(1);
        due("seen(0, 0) again", x.seen(0, 0), false);
        due("of(1, 0), left by a refusal", x.of(1, 0), 1);
        dueAfter(x, 0, 1, 1);
        dueAfter(x, 1, 0, 1);
        due("bar(0, 0)", x.bar(0, 0), true);
        due("rest(0, 0, 1)", x.rest(0, 0, 1), true);
        due("stop(1, 2)", x.stop(1, 2), true);
        due("counts(1, 1)", x.counts(1, 1), false);

        // A thing may be seen where nothing of it would be left by the looks.
        SearchGrids y = twoCells();
        y.look(0, 0, 100, 0);
        due("seen(0, 0), looked over", y.seen(0, 0), true);

        // Counts of another thing are no counts of thing 0.
        SearchGrids z = new SearchGrids(1);
        z.thing();
        z.countsOf(1, 0, 5);
        z.looker(1, 1, 1);
        z.look(0, 0, 1, 0);
        due("seen(0, 0), counts of thing 1 alone", z.seen(0, 0), false);
    }

    private static void logs() {
        SearchGrids x = twoCells();
        due("log(0, 0) of none", x.log(0, 0), NONE);
        x.look(0, 1, 9, 5000000000L);
        x.look(1, 0, 8, 5);
        x.look(0, 0, 7, 0);
        x.look(1, 1, 6, 5);
        x.look(0, 1, 5, 4999999999L);
        int[][] rows = {{0, 0, 7, 2}, {1, 0, 8, 1}, {1, 1, 6, 3}, {0, 1, 5, 4}, {0, 1, 9, 0}};
        for (int k = 0; k < rows.length; k++) {
            for (int what = 0; what < 4; what++) {
                due("log(" + k + ", " + what + ")", x.log(k, what), rows[k][what]);
            }
        }
        due("log(5, 0)", x.log(5, 0), NONE);
        due("log(-1, 0)", x.log(-1, 0), NONE);
        due("log(0, 4)", x.log(0, 4), NONE);
        due("log(0, -1)", x.log(0, -1), NONE);
    }

    private static void areas() {
        for (long area = -1; area <= 1500; area++) {
            boolean divides = area >= 1 && 720 % area == 0;
            due("area(0, " + area + ")", new SearchGrids(1).area(0, area), divides);
        }
        SearchGrids x = new SearchGrids(50);
        x.area(0, 720);
        x.area(0, 0);
        due("area(0, 2^32 + 1)", x.area(0, (1L << 32) + 1), false);
        due("line(0, 719, 1), left by refusals", x.line(0, 719, 1), 29);
        due("area(50, 1)", x.area(50, 1), false);
        due("area(-1, 1)", x.area(-1, 1), false);
        due("area(1, 7)", x.area(1, 7), false);
        due("covers(1), not told by a refusal", x.covers(1), false);

        // 60 at first: one hour of 6 squares finds 1/10, of 720 squares 1/120.
        SearchGrids y = new SearchGrids(2);
        y.counts(0, 1);
        y.looker(6, 1, 1);
        y.share(1);
        dueFound(y, 1, 10);
        y.area(0, 7);
        dueFound(y, 1, 10);
        y.area(0, 60);
        dueFound(y, 0, 1);
        y.area(0, 720);
        y.share(1);
        dueFound(y, 1, 120);
        y.look(0, 0, 1, 0);
        due("area(0, 60) behind a look", y.area(0, 60), false);
        due("area(1, 60) behind a look", y.area(1, 60), false);
        due("covers(1)", y.covers(1), false);

        SearchGrids z = fortyCells();
        due("area(40, 1), the 41st", z.area(40, 1), false);
        due("area(39, 1)", z.area(39, 1), true);
        SearchGrids w = new SearchGrids(50);
        for (int cell = 0; cell < 40; cell++) {
            w.area(cell, 1);
        }
        due("counts(40, 1), the 41st behind areas", w.counts(40, 1), false);
    }

    private static void run(int number) {
        promise = number;
        switch (number) {
            case 1 -> aNewObject();
            case 2 -> countsOfThing0();
            case 3 -> oddsOfThing0();
            case 4 -> lookers();
            case 5 -> bars();
            case 6 -> shares();
            case 7 -> hoursOfThePlan();
            case 8 -> triedPlans();
            case 9 -> looks();
            case 10 -> oddsAfterLooks();
            case 11 -> oddsThatSum();
            case 12 -> whatThePlanFinds();
            case 13 -> lines();
            case 14 -> waysThatCover();
            case 15 -> rests();
            case 16 -> things();
            case 17 -> countsOfThings();
            case 18 -> whenToStop();
            case 19 -> mayStop();
            case 20 -> orders();
            case 21 -> seenThings();
            case 22 -> logs();
            default -> areas();
        }
    }

    public static void main(String[] args) {
        for (int number = 1; number <= 23; number++) {
            run(number);
        }
        System.out.println(wrong == 0 ? "all promises hold" : wrong + " answers are not as due");
        if (wrong != 0) {
            System.exit(1);
        }
    }
}
