/** Promises 35 to 39: what will become of the hedge. */
public final class ForecastPromisesTest {
    private static final Checks CHECKS = new Checks();

    private ForecastPromisesTest() {
    }

    public static void main(String[] args) {
        CHECKS.test("promise 35: daysUntilPruned", ForecastPromisesTest::daysUntilPruned);
        CHECKS.test("promise 35: whatever removed the twig", ForecastPromisesTest::daysUntilDelivered);
        CHECKS.test("promise 36: deliveredAfter", ForecastPromisesTest::deliveredAfter);
        CHECKS.test("promise 37: pendingAfter", ForecastPromisesTest::pendingAfter);
        CHECKS.test("promise 38: bestNestSlot", ForecastPromisesTest::bestNestSlot);
        CHECKS.test("promise 39: leastWorkLimit", ForecastPromisesTest::leastWorkLimit);
        CHECKS.test("promises 35 to 39: nothing changes", ForecastPromisesTest::nothingChanges);
        CHECKS.close();
    }

    private static void daysUntilPruned() {
        HedgeMessages hedge = Hedges.of("hedge 20 1 2 5 3 5;twig 0 a 0 3;twig 5 b 1 3;nest 6 4;twig 10 c 0 3;nest 10 3;");
        CHECKS.same(3, hedge.daysUntilPruned(0), "daysUntilPruned(0)");
        CHECKS.same(6, hedge.daysUntilPruned(5), "daysUntilPruned(5), protected for 4 days");
        CHECKS.same(3, hedge.daysUntilPruned(10), "daysUntilPruned(10), protected for 3 days");
        CHECKS.same(0, hedge.daysUntilPruned(1), "daysUntilPruned(1) of an empty slot");
        CHECKS.same(-1, Hedges.of("hedge 4 1 0 9 1 1;twig 0 a 0 9;").daysUntilPruned(0), "without growth");
        CHECKS.same(60, Hedges.of("hedge 4 1 1 60 1 1;twig 0 a 0 1;").daysUntilPruned(0), "after 60 days");
        CHECKS.same(-1, Hedges.of("hedge 4 1 1 61 1 1;twig 0 a 0 1;").daysUntilPruned(0), "after 61 days");
        CHECKS.same(1, Hedges.of("hedge 4 1 0 9 1 1;twig 0 a 0 10;").daysUntilPruned(0), "of a long twig");
        CHECKS.slotOnly("daysUntilPruned", 20, hedge::daysUntilPruned);
    }

    private static void daysUntilDelivered() {
        HedgeMessages hedge = Hedges.of("hedge 10 3 0 9 30 5;message 0 ab;message 1 z;");
        hedge.endDays(1);
        CHECKS.same(1, hedge.daysUntilPruned(1), "daysUntilPruned(1) of a delivered message");
        // At the end of day 1 slot 0 loses one twig and gets another, so it holds one after that day.
        CHECKS.same(2, hedge.daysUntilPruned(0), "daysUntilPruned(0) of a slot that is written again");
        CHECKS.same(0, hedge.daysUntilPruned(2), "daysUntilPruned(2)");
        HedgeMessages failing = Hedges.of("hedge 10 1 1 3 3 5;message 0 abc;");
        failing.endDays(2);
        CHECKS.same(1, failing.daysUntilPruned(0), "daysUntilPruned(0) of a pruned letter");
        HedgeMessages other = Hedges.of("hedge 10 1 1 4 4 5;message 0 abc;");
        other.endDays(3);
        CHECKS.same(1, other.daysUntilPruned(1), "daysUntilPruned(1) of a letter of a failed message");
    }

    private static HedgeMessages slowWriters() {
        return Hedges.of("hedge 20 1 0 9 30 5;message 0 ab;message 0 c;message 1 z;");
    }

    private static void deliveredAfter() {
        HedgeMessages hedge = slowWriters();
        int[] due = {0, 0, 0, 0, 1, 1, 2, 2};
        int[] dueOther = {0, 0, 0, 1, 1, 1, 1, 1};
        for (int days = 0; days < due.length; days++) {
            CHECKS.same(due[days], hedge.deliveredAfter(0, days), "deliveredAfter(0, " + days + ")");
            CHECKS.same(dueOther[days], hedge.deliveredAfter(1, days), "deliveredAfter(1, " + days + ")");
        }
        CHECKS.same(2, hedge.deliveredAfter(0, 60), "deliveredAfter(0, 60)");
        hedge.endDays(4);
        CHECKS.same(0, hedge.deliveredAfter(0, 0), "deliveredAfter(0, 0) on day 4");
        CHECKS.same(0, hedge.deliveredAfter(0, 1), "deliveredAfter(0, 1) on day 4");
        CHECKS.same(1, hedge.deliveredAfter(0, 2), "deliveredAfter(0, 2) on day 4");
        CHECKS.gardenerOnly("deliveredAfter", gardener -> hedge.deliveredAfter(gardener, 1));
        for (int days : new int[] {-1, 61, Integer.MIN_VALUE, Integer.MAX_VALUE}) {
            CHECKS.badArgument("deliveredAfter(0, " + days + ")", () -> hedge.deliveredAfter(0, days));
        }
    }

    private static void pendingAfter() {
        HedgeMessages hedge = slowWriters();
        int[] due = {2, 1, 1, 1, 1, 0, 0};
        int[] dueOther = {1, 1, 0, 0, 0, 0, 0};
        for (int days = 0; days < due.length; days++) {
            CHECKS.same(due[days], hedge.pendingAfter(0, days), "pendingAfter(0, " + days + ")");
            CHECKS.same(dueOther[days], hedge.pendingAfter(1, days), "pendingAfter(1, " + days + ")");
        }
        CHECKS.same(0, hedge.pendingAfter(0, 60), "pendingAfter(0, 60)");
        HedgeMessages failing = Hedges.of("hedge 10 2 2 2 1 5;message 0 abc;");
        CHECKS.same(1, failing.pendingAfter(0, 1), "pendingAfter(0, 1) of a message that fails");
        CHECKS.gardenerOnly("pendingAfter", gardener -> hedge.pendingAfter(gardener, 1));
        for (int days : new int[] {-1, 61, Integer.MIN_VALUE, Integer.MAX_VALUE}) {
            CHECKS.badArgument("pendingAfter(0, " + days + ")", () -> hedge.pendingAfter(0, days));
        }
    }

    private static void bestNestSlot() {
        HedgeMessages hedge = Hedges.of("hedge 12 1 0 9 30 1;twig 1 a 0 10;twig 3 b 1 10;twig 5 c 0 9;twig 8 d 0 10;"
                + "twig 9 e 1 10;twig 10 f 0 10;");
        CHECKS.same(9, hedge.bestNestSlot(), "bestNestSlot()");
        hedge.addNest(9, 5);
        CHECKS.same(2, hedge.bestNestSlot(), "bestNestSlot() with a nest in 9");
        hedge.addNest(2, 5);
        CHECKS.same(0, hedge.bestNestSlot(), "bestNestSlot() that saves none");
        hedge.addNest(0, 5);
        CHECKS.same(1, hedge.bestNestSlot(), "bestNestSlot() that saves none, with a nest in 0");
        hedge.addNest(4, 5);
        hedge.addNest(5, 5);
        CHECKS.same(1, hedge.bestNestSlot(), "bestNestSlot() with 5 nests");
        hedge.addNest(6, 5);
        CHECKS.same(-1, hedge.bestNestSlot(), "bestNestSlot() with 6 nests");
        CHECKS.same(-1, Hedges.of("hedge 4 1 0 9 30 1;nest 0 1;nest 1 1;nest 2 1;nest 3 1;").bestNestSlot(),
                "bestNestSlot() with a nest in every slot");
        CHECKS.same(10, Hedges.of("hedge 12 1 0 9 30 1;twig 11 a 0 10;").bestNestSlot(), "bestNestSlot() at the end");
        CHECKS.same(0, Hedges.of("hedge 12 1 0 9 30 1;twig 0 a 0 10;").bestNestSlot(), "bestNestSlot() at the start");
        // The nest's neighbour keeps its own protection, so only slot 4 would save the twig in 5.
        CHECKS.same(4, Hedges.of("hedge 7 1 0 9 30 1;nest 2 9;twig 3 a 0 10;twig 5 b 0 10;twig 1 c 0 10;")
                .bestNestSlot(), "bestNestSlot() beside a nest");
    }

    private static void leastWorkLimit() {
        // Day 0 has one action whatever the limit; five letters are to be written on even days.
        HedgeMessages hedge = Hedges.of("hedge 20 1 0 9 30 5;message 0 abc;message 0 de;");
        int[] due = {-1, -1, -1, 4, 4, 2, 2, 2, 2, 1, 1};
        for (int days = 1; days <= due.length; days++) {
            CHECKS.same(due[days - 1], hedge.leastWorkLimit(0, days), "leastWorkLimit(0, " + days + ")");
        }
        CHECKS.same(1, hedge.leastWorkLimit(0, 60), "leastWorkLimit(0, 60)");
        CHECKS.same(1, hedge.leastWorkLimit(1, 1), "leastWorkLimit(1, 1) without messages");
        hedge.setWorkLimit(12);
        CHECKS.same(4, hedge.leastWorkLimit(0, 4), "leastWorkLimit(0, 4) with another limit");
        HedgeMessages twelve = Hedges.of("hedge 20 1 0 9 30 5;twig 19 q 0 1;message 1 abcdefghijkl;");
        CHECKS.same(12, twelve.leastWorkLimit(1, 3), "leastWorkLimit(1, 3) of 12 letters");
        CHECKS.same(6, twelve.leastWorkLimit(1, 5), "leastWorkLimit(1, 5) of 12 letters");
        CHECKS.gardenerOnly("leastWorkLimit", gardener -> hedge.leastWorkLimit(gardener, 1));
        for (int days : new int[] {0, -1, 61, Integer.MIN_VALUE, Integer.MAX_VALUE}) {
            CHECKS.badArgument("leastWorkLimit(0, " + days + ")", () -> hedge.leastWorkLimit(0, days));
        }
    }

    private static void nothingChanges() {
        HedgeMessages hedge = new HedgeMessages();
        hedge.endDays(1);
        hedge.save();
        hedge.formatHedge();
        String before = Hedges.state(hedge);
        hedge.daysUntilPruned(2);
        hedge.deliveredAfter(0, 60);
        hedge.pendingAfter(1, 60);
        hedge.leastWorkLimit(0, 60);
        hedge.bestNestSlot();
        CHECKS.same(before, Hedges.state(hedge), "the hedge");
        CHECKS.same(1, hedge.restore(), "restore()");
        CHECKS.same(before, Hedges.state(hedge), "the restored hedge");
        CHECKS.same((int) 'q', hedge.outputByte(2), "the output");
        hedge.setWorkLimit(2);
        before = Hedges.state(hedge);
        hedge.endDays(1);
        hedge.leastWorkLimit(1, 60);
        CHECKS.same(1, hedge.undo(), "undo()");
        CHECKS.same(before, Hedges.state(hedge), "the hedge after undo");
    }
}
