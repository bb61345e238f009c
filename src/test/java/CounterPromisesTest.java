/** Promises 40 to 51: the counters, and what the end of a day and an inspection do. */
public final class CounterPromisesTest {
    private static final Checks CHECKS = new Checks();

    private CounterPromisesTest() {
    }

    public static void main(String[] args) {
        CHECKS.test("promise 40: messagesQueued", CounterPromisesTest::queued);
        CHECKS.test("promise 41: messagesDelivered", CounterPromisesTest::delivered);
        CHECKS.test("promise 42: messagesFailed in progress", CounterPromisesTest::failedInProgress);
        CHECKS.test("promise 42: messagesFailed when posted", CounterPromisesTest::failedPosted);
        CHECKS.test("promise 42: the order of failed messages", CounterPromisesTest::failingOrder);
        CHECKS.test("promise 43: messagesDropped", CounterPromisesTest::dropped);
        CHECKS.test("promise 43: the queue fills while messages fail", CounterPromisesTest::droppedInOrder);
        CHECKS.test("promise 44: twigsPlanted", CounterPromisesTest::planted);
        CHECKS.test("promise 45: twigsPruned", CounterPromisesTest::pruned);
        CHECKS.test("promise 46: twigsRemoved", CounterPromisesTest::removed);
        CHECKS.test("promises 47 to 49: always 0", CounterPromisesTest::alwaysZero);
        CHECKS.test("promise 50: meanLength", CounterPromisesTest::meanLength);
        CHECKS.test("promise 51: occupancy", CounterPromisesTest::occupancy);
        CHECKS.close();
    }

    private static void counters(HedgeMessages hedge, int gardener, int queued, int delivered, int failed,
            int dropped) {
        CHECKS.same(queued, hedge.messagesQueued(gardener), "messagesQueued(" + gardener + ")");
        CHECKS.same(delivered, hedge.messagesDelivered(gardener), "messagesDelivered(" + gardener + ")");
        CHECKS.same(failed, hedge.messagesFailed(gardener), "messagesFailed(" + gardener + ")");
        CHECKS.same(dropped, hedge.messagesDropped(gardener), "messagesDropped(" + gardener + ")");
    }

    private static void twigs(HedgeMessages hedge, int planted, int pruned, int removed) {
        CHECKS.same(planted, hedge.twigsPlanted(), "twigsPlanted()");
        CHECKS.same(pruned, hedge.twigsPruned(), "twigsPruned()");
        CHECKS.same(removed, hedge.twigsRemoved(), "twigsRemoved()");
    }

    private static void queued() {
        HedgeMessages hedge = Hedges.of("hedge 10 2 2 2 1 5;message 0 abc;message 0 d;message 1 e;");
        counters(hedge, 0, 2, 0, 0, 0);
        counters(hedge, 1, 1, 0, 0, 0);
        Hedges.queue(hedge, 1, "new");
        counters(hedge, 1, 2, 0, 0, 0);
        hedge.cancelMessage(1, 1);
        counters(hedge, 1, 2, 0, 0, 1);
        hedge.endDays(1);
        counters(hedge, 0, 2, 0, 1, 0);
        CHECKS.same("d abc", Hedges.pending(hedge, 0), "queue 0 with a failed message at its end");
        CHECKS.gardenerOnly("messagesQueued", hedge::messagesQueued);
        CHECKS.gardenerOnly("messagesDelivered", hedge::messagesDelivered);
        CHECKS.gardenerOnly("messagesFailed", hedge::messagesFailed);
        CHECKS.gardenerOnly("messagesDropped", hedge::messagesDropped);
    }

    private static void delivered() {
        HedgeMessages hedge = Hedges.of("hedge 10 3 2 30 4 5;message 0 ab;message 1 xyz;message 0 c;");
        CHECKS.same(0, hedge.endDays(1), "endDays(1) on day 0");
        CHECKS.same("ab.c......", Hedges.picture(hedge), "day 1");
        CHECKS.same(2, hedge.endDays(1), "endDays(1) on day 1");
        counters(hedge, 0, 2, 2, 0, 0);
        counters(hedge, 1, 1, 0, 0, 0);
        CHECKS.same("XYZ.......", Hedges.picture(hedge), "day 2, written where the other's were delivered");
        CHECKS.same(1, hedge.endDays(1), "endDays(1) on day 2");
        counters(hedge, 1, 1, 1, 0, 0);
        CHECKS.same(3, hedge.day(), "day()");
        twigs(hedge, 6, 0, 6);
        // Twigs that stand beside a message are not part of it.
        HedgeMessages beside = Hedges.of("hedge 8 4 0 9 30 1;nest 0 1;message 0 ab;");
        beside.endDays(1);
        CHECKS.same(".ab.....", Hedges.picture(beside), "the hedge with a posted message");
        beside.plant(0, 'x');
        beside.plant(3, 'y');
        CHECKS.same(1, beside.endDays(1), "endDays(1) beside twigs");
        CHECKS.same("X..Y....", Hedges.picture(beside), "the twigs beside the message");
        // A message is not read on the day on which it is posted.
        HedgeMessages slow = Hedges.of("hedge 10 1 0 9 30 1;message 0 ab;");
        CHECKS.same(0, slow.endDays(3), "endDays(3)");
        CHECKS.same(1, slow.postedCount(0), "postedCount(0)");
        CHECKS.same(1, slow.endDays(1), "endDays(1)");
    }

    private static void failedInProgress() {
        HedgeMessages hedge = Hedges.of("hedge 10 1 1 3 3 5;message 0 abc;message 0 z;");
        hedge.endDays(2);
        hedge.addNest(2, 9);
        CHECKS.same("a==.......", Hedges.picture(hedge), "day 2");
        hedge.endDays(1);
        // The letter a was 4 long and pruned; b was 2 long, protected too, but its message failed.
        CHECKS.same("..*.......", Hedges.picture(hedge), "day 3");
        counters(hedge, 0, 2, 0, 1, 0);
        twigs(hedge, 2, 1, 1);
        CHECKS.same(0, hedge.lettersWritten(0), "lettersWritten(0)");
        CHECKS.same(-1, hedge.startSlot(0), "startSlot(0)");
        CHECKS.same(0, hedge.postedCount(0), "postedCount(0)");
        CHECKS.same("z abc", Hedges.pending(hedge, 0), "queue 0");
        CHECKS.same(false, hedge.isReserved(0) || hedge.isReserved(1) || hedge.isReserved(2), "isReserved");
        HedgeMessages guarded = Hedges.of("hedge 10 1 9 1 1 5;message 0 abcd;");
        guarded.addNest(0, 9);
        guarded.addNest(2, 9);
        guarded.endDays(1);
        CHECKS.same("*.*a===...", Hedges.picture(guarded), "a letter beside a nest");
        counters(guarded, 0, 1, 0, 0, 0);
    }

    private static void failedPosted() {
        HedgeMessages hedge = Hedges.of("hedge 12 5 1 2 2 5;message 0 ab;message 0 cd;message 1 xy;");
        hedge.endDays(1);
        CHECKS.same("ab.cd.......", Hedges.picture(hedge), "day 1");
        CHECKS.same(2, hedge.endDays(1), "endDays(1): delivered before the inspection");
        CHECKS.same("XY..........", Hedges.picture(hedge), "day 2: xy is 2 long, as is legal");
        HedgeMessages failing = Hedges.of("hedge 12 5 2 2 1 5;message 0 ab;message 0 cd;twig 11 q 0 1;");
        failing.addNest(4, 9);
        failing.endDays(1);
        // ab starts at 0; cd starts at 5 behind the nest, so its c is protected and its d is pruned.
        CHECKS.same("....*.......", Hedges.picture(failing), "day 1 of the failing");
        counters(failing, 0, 2, 0, 2, 0);
        twigs(failing, 5, 4, 1);
        CHECKS.same("ab cd", Hedges.pending(failing, 0), "queue 0");
        HedgeMessages halves = Hedges.of("hedge 12 5 2 2 1 5;message 0 ab;message 0 c;nest 3 9;");
        halves.endDays(1);
        CHECKS.same("...*c.......", Hedges.picture(halves), "day 1 of one that fails and one that stays");
        counters(halves, 0, 2, 0, 1, 0);
        CHECKS.same(1, halves.postedCount(0), "postedCount(0)");
        CHECKS.same(1, halves.endDays(1), "endDays(1)");
    }

    private static void failingOrder() {
        HedgeMessages hedge = Hedges.of("hedge 16 5 2 2 1 5;message 0 ab;message 0 cd;message 0 efgh;message 0 i;");
        hedge.endDays(1);
        CHECKS.same("i efgh ab cd", Hedges.pending(hedge, 0), "queue 0: in progress first, then as posted");
        counters(hedge, 0, 4, 0, 3, 0);
        twigs(hedge, 5, 5, 0);
        HedgeMessages crossed = Hedges.of("hedge 16 4 2 2 1 5;twig 3 q 1 1;message 0 abc;message 0 d;");
        crossed.endDays(1);
        CHECKS.same("abc d", Hedges.pending(crossed, 0), "queue 0: abc was posted first, but behind d");
        HedgeMessages both = Hedges.of("hedge 20 2 1 3 4 5;message 0 abcd;message 1 wxyz;");
        both.endDays(4);
        CHECKS.same("wxyz", Hedges.pending(both, 1), "queue 1 with a posted message that failed");
        counters(both, 1, 1, 0, 1, 0);
        counters(both, 0, 1, 1, 0, 0);
    }

    private static void dropped() {
        HedgeMessages hedge = Hedges.of("hedge 16 2 2 2 2 5;message 0 abc;" + "message 0 z;".repeat(7));
        hedge.endDays(1);
        CHECKS.same(8, Hedges.queue(hedge, 0, "last"), "queueMessage");
        hedge.endDays(1);
        counters(hedge, 0, 9, 0, 1, 1);
        CHECKS.same("z z z z z z z last", Hedges.pending(hedge, 0), "queue 0");
        CHECKS.same("................", Hedges.picture(hedge), "the hedge");
        CHECKS.same(0, hedge.messageImbalance(), "messageImbalance()");
        hedge.cancelMessage(0, 7);
        counters(hedge, 0, 9, 0, 1, 2);
        counters(hedge, 1, 0, 0, 0, 0);
    }

    private static void droppedInOrder() {
        HedgeMessages hedge = Hedges.of("hedge 16 5 2 2 2 5;message 0 ab;message 0 cdef;" + "message 1 m;"
                + "message 0 z;".repeat(6));
        hedge.setWorkLimit(1);
        hedge.endDays(1);
        CHECKS.same("ab.cde=.........", Hedges.picture(hedge), "day 1");
        // One place is left after this: the one in progress is first, but ab is delivered before.
        CHECKS.same(7, Hedges.queue(hedge, 0, "y"), "queueMessage");
        hedge.endDays(1);
        CHECKS.same("z z z z z z y cdef", Hedges.pending(hedge, 0), "queue 0");
        counters(hedge, 0, 9, 1, 1, 0);
        HedgeMessages daily = Hedges.of("hedge 16 6 2 2 1 5;message 0 ab;message 0 c;message 0 defg;"
                + "message 0 z;".repeat(5));
        daily.endDays(1);
        CHECKS.same("z z z z z defg ab c", Hedges.pending(daily, 0), "queue 0 that is just full");
        counters(daily, 0, 8, 0, 3, 0);
    }

    private static void planted() {
        HedgeMessages hedge = Hedges.of("hedge 10 2 0 9 30 1;twig 0 a 0 1;twig 2 b 1 1;message 1 xyz;");
        twigs(hedge, 2, 0, 0);
        hedge.plant(9, 'q');
        twigs(hedge, 3, 0, 0);
        hedge.endDays(2);
        twigs(hedge, 5, 0, 0);
    }

    private static void pruned() {
        HedgeMessages hedge = Hedges.of("hedge 10 2 1 9 2 1;twig 0 a 0 8;twig 2 b 1 7;twig 4 c 1 8;nest 5 9;");
        hedge.endDays(1);
        twigs(hedge, 3, 0, 0);
        hedge.endDays(1);
        CHECKS.same("..B.C*....", Hedges.picture(hedge), "day 2");
        twigs(hedge, 3, 1, 0);
        hedge.endDays(2);
        twigs(hedge, 3, 2, 0);
        CHECKS.same(12, hedge.lengthAt(4), "lengthAt(4) of a protected twig");
        // No inspection before the first day's end, and none on a day that the interval does not divide.
        HedgeMessages late = Hedges.of("hedge 4 1 0 1 30 1;twig 0 a 0 99;");
        late.endDays(29);
        twigs(late, 1, 0, 0);
        late.endDays(1);
        twigs(late, 1, 1, 0);
    }

    private static void removed() {
        HedgeMessages hedge = Hedges.of("hedge 10 4 0 9 30 1;twig 9 a 0 1;message 0 xyz;");
        hedge.remove(9);
        twigs(hedge, 1, 0, 1);
        hedge.endDays(1);
        twigs(hedge, 4, 0, 1);
        hedge.endDays(1);
        twigs(hedge, 4, 0, 4);
        hedge.undo();
        twigs(hedge, 4, 0, 1);
    }

    private static void alwaysZero() {
        HedgeMessages hedge = Hedges.of("hedge 24 3 2 5 3 4;twig 2 q 0 3;twig 9 r 1 6;nest 10 5;message 0 hello;"
                + "message 1 yes;message 0 no;message 1 abcdefghijkl;message 0 xy;");
        for (int day = 0; day < 60; day++) {
            if (day % 7 == 3 && hedge.pendingCount(day % 2) < 8) {
                Hedges.queue(hedge, day % 2, "again");
            }
            if (day % 11 == 5 && hedge.pendingCount(0) > 0) {
                hedge.cancelMessage(0, 0);
            }
            if (hedge.plantReason(day % 24) == 0) {
                hedge.plant(day % 24, 'p');
            }
            CHECKS.same(0, hedge.twigImbalance(), "twigImbalance() on day " + day);
            CHECKS.same(0, hedge.messageImbalance(), "messageImbalance() on day " + day);
            CHECKS.same(0, hedge.wrongLetters(), "wrongLetters() on day " + day);
            hedge.endDays(1);
        }
        CHECKS.same(true, hedge.messagesDelivered(0) > 0 && hedge.messagesFailed(0) > 0, "something happened");
    }

    private static void meanLength() {
        CHECKS.same(0.0f, Hedges.of("hedge 4 1 0 9 30 1;").meanLength(), "meanLength() without twigs");
        CHECKS.same(4.5f, new HedgeMessages().meanLength(), "meanLength() of 3 and 6");
        HedgeMessages thirds = Hedges.of("hedge 4 1 0 9 30 1;twig 0 a 0 1;twig 1 b 0 2;twig 2 c 1 2;");
        CHECKS.same(7.0f, Hedges.of("hedge 4 1 0 9 30 1;twig 2 a 1 7;").meanLength(), "meanLength() of one twig");
        CHECKS.same(5.0f / 3.0f, thirds.meanLength(), "meanLength() of 1, 2 and 2");
    }

    private static void occupancy() {
        CHECKS.same(0.0, Hedges.of("hedge 4 1 0 9 30 1;").occupancy(), "occupancy() without twigs");
        CHECKS.same(2.0 / 16.0, new HedgeMessages().occupancy(), "occupancy() of 2 in 16");
        HedgeMessages sevenths = Hedges.of("hedge 7 1 0 9 30 1;twig 0 a 0 1;twig 1 b 0 2;twig 2 c 1 2;nest 5 1;");
        CHECKS.same(3.0 / 7.0, sevenths.occupancy(), "occupancy() of 3 in 7");
        HedgeMessages reserved = Hedges.of("hedge 8 1 0 9 30 1;message 0 abcd;");
        reserved.endDays(1);
        CHECKS.same(0.125, reserved.occupancy(), "occupancy() beside reserved slots");
    }
}
