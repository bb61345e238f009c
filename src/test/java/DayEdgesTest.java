/** Promise 59 and the end of a day: a test of its own for each sentence that names a boundary case. */
public final class DayEdgesTest {
    private static final Checks CHECKS = new Checks();

    private DayEdgesTest() {
    }

    public static void main(String[] args) {
        numberOfDays();
        delivering();
        writing();
        startingToWrite();
        growing();
        nextDay();
        inspecting();
        failing();
        fullQueues();
        CHECKS.close();
    }

    private static HedgeMessages after(int days, String configuration) {
        HedgeMessages hedge = Hedges.of(configuration);
        hedge.endDays(days);
        return hedge;
    }

    private static void seen(String due, HedgeMessages hedge) {
        CHECKS.same(due, Hedges.picture(hedge), "the hedge on day " + hedge.day());
    }

    // ---- endDays itself ----

    private static void numberOfDays() {
        CHECKS.test("promise 59: 1 day", () -> {
            HedgeMessages hedge = new HedgeMessages();
            CHECKS.same(0, hedge.endDays(1), "endDays(1)");
            CHECKS.same(1, hedge.day(), "day()");
        });
        CHECKS.test("promise 59: 60 days", () -> {
            HedgeMessages hedge = Hedges.of("hedge 4 1 0 9 30 1;message 0 a;message 1 b;");
            CHECKS.same(2, hedge.endDays(60), "endDays(60)");
            CHECKS.same(60, hedge.day(), "day()");
        });
        CHECKS.test("promise 59: no fewer than 1 day and no more than 60", () -> {
            Witness witness = new Witness(CHECKS, new HedgeMessages());
            for (int days : new int[] {0, -1, 61, Integer.MIN_VALUE, Integer.MAX_VALUE}) {
                witness.refusesArgument("endDays(" + days + ")", () -> witness.hedge.endDays(days));
            }
            witness.close();
        });
        CHECKS.test("promise 59: it answers the messages of both gardeners that were delivered in these days", () -> {
            HedgeMessages hedge = Hedges.of("hedge 16 2 0 9 30 1;message 0 a;message 0 b;message 1 c;message 1 d;");
            CHECKS.same(0, hedge.endDays(1), "endDays(1) on day 0");
            CHECKS.same(4, hedge.endDays(2), "endDays(2) on day 1");
            CHECKS.same(0, hedge.endDays(60), "endDays(60) on day 3");
        });
        CHECKS.test("promise 59: many days are as many single ones", () -> {
            HedgeMessages one = new HedgeMessages();
            HedgeMessages many = new HedgeMessages();
            int delivered = 0;
            for (int day = 0; day < 60; day++) {
                delivered += one.endDays(1);
            }
            CHECKS.same(delivered, many.endDays(60), "endDays(60)");
            CHECKS.same(Hedges.state(one), Hedges.state(many), "the hedge");
        });
        CHECKS.test("promise 59: 60 days are undone at once", () -> {
            HedgeMessages hedge = new HedgeMessages();
            String before = Hedges.state(hedge);
            hedge.endDays(60);
            CHECKS.same(0, hedge.undo(), "undo()");
            CHECKS.same(before, Hedges.state(hedge), "the hedge");
        });
    }

    // ---- Step 1 ----

    private static void delivering() {
        CHECKS.test("promise 59, step 1: not on the day on which the message is posted", () ->
                seen("abc.....", after(1, "hedge 8 3 0 9 30 1;message 0 abc;")));
        CHECKS.test("promise 59, step 1: on the other's next day", () ->
                seen("........", after(2, "hedge 8 3 0 9 30 1;message 0 abc;")));
        CHECKS.test("promise 59, step 1: a message in progress stays", () ->
                seen("ab======", after(2, "hedge 8 2 0 9 30 1;message 0 abcdefgh;")));
        CHECKS.test("promise 59, step 1: every posted message", () -> {
            HedgeMessages hedge = after(1, "hedge 16 8 0 9 30 1;" + "message 0 a;".repeat(8));
            seen("a.a.a.a.a.a.a.a.", hedge);
            CHECKS.same(8, hedge.endDays(1), "endDays(1)");
            seen("................", hedge);
        });
        CHECKS.test("promise 59, step 1: before step 2, which uses its slots", () ->
                seen("XYZ.", after(2, "hedge 4 4 0 9 30 1;message 0 abcd;message 1 xyz;")));
        CHECKS.test("promise 59, step 1: before an inspection, so it can't fail", () -> {
            HedgeMessages hedge = after(2, "hedge 4 4 9 1 2 1;message 0 abcd;");
            CHECKS.same(1, hedge.messagesDelivered(0), "messagesDelivered(0)");
            CHECKS.same(0, hedge.messagesFailed(0), "messagesFailed(0)");
        });
        CHECKS.test("promise 59, step 1: no action is needed", () -> {
            HedgeMessages hedge = after(1, "hedge 8 1 0 9 30 1;message 0 a;");
            hedge.plant(7, 'q');
            CHECKS.same(0, hedge.actionsLeft(), "actionsLeft()");
            CHECKS.same(1, hedge.endDays(1), "endDays(1)");
        });
        CHECKS.test("promise 59, step 1: in a nest, too", () -> {
            HedgeMessages hedge = after(1, "hedge 8 1 0 9 30 1;message 0 a;");
            hedge.addNest(0, 9);
            hedge.endDays(1);
            seen("*.......", hedge);
            CHECKS.same(8, hedge.nestDays(0), "nestDays(0)");
        });
        CHECKS.test("promise 59, step 1: the last slots of 40", () -> {
            StringBuilder text = new StringBuilder("hedge 40 12 0 9 30 1;message 0 abcdefghijkl;");
            for (int slot = 1; slot < 27; slot += 5) {
                text.append("twig ").append(slot).append(" q 1 1;");
            }
            HedgeMessages hedge = after(1, text.toString());
            CHECKS.same("abcdefghijkl", Hedges.picture(hedge).substring(28), "the last 12 slots");
            hedge.endDays(1);
            CHECKS.same("............", Hedges.picture(hedge).substring(28), "the last 12 slots after the delivery");
            CHECKS.same(false, hedge.isReserved(28) || hedge.isReserved(39), "isReserved");
        });
    }

    // ---- Step 2 ----

    private static void writing() {
        CHECKS.test("promise 59, step 2: one action, one letter", () ->
                seen("a==.....", after(1, "hedge 8 1 0 9 30 1;message 0 abc;")));
        CHECKS.test("promise 59, step 2: as many letters as actions", () ->
                seen("ab=.....", after(1, "hedge 8 2 0 9 30 1;message 0 abc;")));
        CHECKS.test("promise 59, step 2: no letter without an action", () -> {
            HedgeMessages hedge = Hedges.of("hedge 8 1 0 9 30 1;message 0 abc;");
            hedge.plant(7, 'q');
            hedge.endDays(1);
            seen(".......q", hedge);
            CHECKS.same("abc", Hedges.pending(hedge, 0), "queue 0");
            CHECKS.same(0, hedge.lettersWritten(0), "lettersWritten(0)");
        });
        CHECKS.test("promise 59, step 2: the actions that are left after work by hand", () -> {
            HedgeMessages hedge = Hedges.of("hedge 8 3 0 9 30 1;message 0 abc;");
            hedge.plant(7, 'q');
            hedge.endDays(1);
            seen("ab=....q", hedge);
        });
        CHECKS.test("promise 59, step 2: up to the last letter", () -> {
            HedgeMessages hedge = after(1, "hedge 8 3 0 9 30 1;message 0 abc;");
            CHECKS.same(1, hedge.postedCount(0), "postedCount(0)");
            CHECKS.same(0, hedge.lettersWritten(0), "lettersWritten(0)");
        });
        CHECKS.test("promise 59, step 2: the active gardener alone", () -> {
            HedgeMessages hedge = after(1, "hedge 8 3 0 9 30 1;message 1 xyz;");
            seen("........", hedge);
            hedge.endDays(1);
            seen("XYZ.....", hedge);
        });
        CHECKS.test("promise 59, step 2: the message in progress goes on, though others wait", () ->
                seen("abcd==..", after(3, "hedge 8 2 0 9 30 1;message 0 abcdef;message 0 g;")));
        CHECKS.test("promise 59, step 2: a letter is planted in a slot that has a nest by then", () -> {
            HedgeMessages hedge = after(1, "hedge 8 1 0 9 30 1;message 0 abc;");
            hedge.addNest(1, 9);
            hedge.endDays(2);
            seen("ab=.....", hedge);
            CHECKS.same(7, hedge.nestDays(1), "nestDays(1)");
        });
        CHECKS.test("promise 59, step 2: a letter has length 1 and the sender for its owner", () -> {
            HedgeMessages hedge = after(2, "hedge 8 2 0 9 30 1;message 1 xyz;");
            CHECKS.same(1, hedge.lengthAt(1), "lengthAt(1)");
            CHECKS.same(1, hedge.ownerAt(1), "ownerAt(1)");
            CHECKS.same((int) 'y', hedge.letterAt(1), "letterAt(1)");
        });
        CHECKS.test("promise 59, step 2: 12 letters on one day", () ->
                seen("abcdefghijkl", after(1, "hedge 12 12 0 9 30 1;message 0 abcdefghijkl;")));
    }

    private static void startingToWrite() {
        CHECKS.test("promise 59, step 2: the next message on the same day", () -> {
            HedgeMessages hedge = after(1, "hedge 8 3 0 9 30 1;message 0 ab;message 0 cd;");
            seen("ab.c=...", hedge);
            CHECKS.same(1, hedge.postedCount(0), "postedCount(0)");
            CHECKS.same(1, hedge.lettersWritten(0), "lettersWritten(0)");
            CHECKS.same(3, hedge.startSlot(0), "startSlot(0)");
        });
        CHECKS.test("promise 59, step 2: no message is started without an action", () -> {
            HedgeMessages hedge = after(1, "hedge 8 2 0 9 30 1;message 0 ab;message 0 cd;");
            seen("ab......", hedge);
            CHECKS.same("cd", Hedges.pending(hedge, 0), "queue 0");
        });
        CHECKS.test("promise 59, step 2: it ends if the queue is empty", () -> {
            HedgeMessages hedge = after(1, "hedge 8 12 0 9 30 1;message 0 ab;");
            seen("ab......", hedge);
            CHECKS.same(2, hedge.twigsPlanted(), "twigsPlanted()");
            CHECKS.same(12, hedge.actionsLeft(), "actionsLeft() on the next day");
        });
        CHECKS.test("promise 59, step 2: it ends if there is no start slot for the first message", () -> {
            HedgeMessages hedge = after(1, "hedge 8 12 0 9 30 1;message 0 ab;message 0 abcdef;message 0 c;");
            seen("ab......", hedge);
            CHECKS.same("abcdef c", Hedges.pending(hedge, 0), "queue 0");
        });
        CHECKS.test("promise 59, step 2: a slot is left between two messages", () ->
                seen("a.b.", after(1, "hedge 4 12 0 9 30 1;" + "message 0 a;message 0 b;message 0 c;")));
        CHECKS.test("promise 59, step 2: the last slot of the hedge", () ->
                seen("q.ab", after(1, "hedge 4 12 0 9 30 1;twig 0 q 0 1;message 0 ab;")));
        CHECKS.test("promise 59, step 2: 8 messages on one day", () -> {
            HedgeMessages hedge = after(1, "hedge 16 12 0 9 30 1;" + "message 0 a;".repeat(8));
            CHECKS.same(8, hedge.postedCount(0), "postedCount(0)");
            CHECKS.same(0, hedge.pendingCount(0), "pendingCount(0)");
        });
        CHECKS.test("promise 59, step 2: a start slot is found anew each day", () -> {
            HedgeMessages hedge = Hedges.of("hedge 4 2 0 9 30 1;twig 1 q 0 1;message 0 abc;");
            hedge.endDays(2);
            seen(".q..", hedge);
            hedge.remove(1);
            hedge.endDays(1);
            seen("a==.", hedge);
        });
        CHECKS.test("promise 59, step 2: two gardeners write side by side", () ->
                seen("ab==.XY=", after(2, "hedge 8 2 0 9 30 1;message 0 abcd;message 1 xyz;")));
    }

    // ---- Steps 3 and 4 ----

    private static void growing() {
        CHECKS.test("promise 59, step 3: a letter that was just written grows, too", () ->
                CHECKS.same(10, after(1, "hedge 8 1 9 99 30 1;message 0 a;").lengthAt(0), "lengthAt(0)"));
        CHECKS.test("promise 59, step 3: twigs of both gardeners grow", () -> {
            HedgeMessages hedge = after(1, "hedge 8 1 9 99 30 1;twig 0 a 0 1;twig 7 b 1 99;");
            CHECKS.same(10, hedge.lengthAt(0), "lengthAt(0)");
            CHECKS.same(108, hedge.lengthAt(7), "lengthAt(7)");
        });
        CHECKS.test("promise 59, step 3: the first and the last of 40 slots", () -> {
            HedgeMessages hedge = after(2, "hedge 40 1 3 99 30 1;twig 0 a 0 1;twig 39 b 1 1;nest 39 3;");
            CHECKS.same(7, hedge.lengthAt(0), "lengthAt(0)");
            CHECKS.same(7, hedge.lengthAt(39), "lengthAt(39)");
            CHECKS.same(1, hedge.nestDays(39), "nestDays(39)");
        });
        CHECKS.test("promise 59, step 3: a growth rate of 0", () ->
                CHECKS.same(1, after(60, "hedge 8 1 0 99 30 1;twig 0 a 0 1;").lengthAt(0), "lengthAt(0)"));
        CHECKS.test("promise 59, step 3: a nest with 0 days is removed", () -> {
            HedgeMessages hedge = after(1, "hedge 8 1 0 9 30 1;nest 3 1;nest 5 2;");
            CHECKS.same(0, hedge.nestDays(3), "nestDays(3)");
            CHECKS.same(1, hedge.nestDays(5), "nestDays(5)");
            CHECKS.same(1, hedge.nestCount(), "nestCount()");
        });
        CHECKS.test("promise 59, step 3: a nest that ends on this day still takes its slot in step 2", () -> {
            HedgeMessages hedge = after(1, "hedge 4 1 0 9 30 1;nest 1 1;message 0 abc;");
            seen("....", hedge);
            hedge.endDays(2);
            seen("a==.", hedge);
        });
        CHECKS.test("promise 59, step 3: a nest of 30 days", () -> {
            CHECKS.same(1, after(29, "hedge 4 1 0 9 30 1;nest 1 30;").nestDays(1), "nestDays(1) on day 29");
            CHECKS.same(0, after(30, "hedge 4 1 0 9 30 1;nest 1 30;").nestDays(1), "nestDays(1) on day 30");
        });
    }

    private static void nextDay() {
        CHECKS.test("promise 59, step 4: the new gardener gets all actions of the new day", () -> {
            HedgeMessages hedge = Hedges.of("hedge 8 2 0 9 30 1;");
            hedge.plant(0, 'a');
            hedge.plant(1, 'a');
            hedge.setWorkLimit(12);
            CHECKS.same(0, hedge.actionsLeft(), "actionsLeft() on day 0");
            hedge.endDays(1);
            CHECKS.same(12, hedge.actionsLeft(), "actionsLeft() on day 1");
        });
        CHECKS.test("promise 59, step 4: no inspection on the first day and before the interval's end", () ->
                CHECKS.same(0, after(29, "hedge 8 1 0 1 30 1;twig 0 a 0 99;").twigsPruned(), "twigsPruned()"));
        CHECKS.test("promise 59, step 4: an inspection on each day that the interval divides", () -> {
            HedgeMessages hedge = after(2, "hedge 8 1 1 4 3 1;twig 0 a 0 1;twig 2 b 0 4;twig 4 c 0 2;");
            seen("a.b.c...", hedge);
            hedge.endDays(1);
            seen("a.......", hedge);
            hedge.endDays(2);
            seen("a.......", hedge);
            hedge.endDays(1);
            seen("........", hedge);
        });
        CHECKS.test("promise 59, step 4: an interval of 1", () -> {
            HedgeMessages hedge = after(1, "hedge 8 1 1 2 1 1;twig 0 a 0 1;twig 2 b 0 2;");
            seen("a.......", hedge);
            hedge.endDays(1);
            seen("........", hedge);
        });
        CHECKS.test("promise 59, step 4: an inspection in the midst of many days", () -> {
            HedgeMessages hedge = after(4, "hedge 8 1 1 5 3 1;twig 0 a 0 3;");
            CHECKS.same(1, hedge.twigsPruned(), "twigsPruned()");
        });
    }

    // ---- The inspection ----

    private static void inspecting() {
        CHECKS.test("promise 59, inspection: the legal length stays, one more is pruned", () ->
                seen("a.......", after(1, "hedge 8 1 1 9 1 1;twig 0 a 0 8;twig 4 b 0 9;")));
        CHECKS.test("promise 59, inspection: a nest protects its slot and both neighbours", () ->
                seen(".bcd....", after(1, "hedge 8 1 0 1 1 1;twig 0 a 0 9;twig 1 b 0 9;twig 2 c 0 9;twig 3 d 0 9;"
                        + "nest 2 2;twig 4 e 1 9;")));
        CHECKS.test("promise 59, inspection: at both ends of the hedge", () ->
                seen("ab....YZ", after(1, "hedge 8 1 0 1 1 1;twig 0 a 0 9;twig 1 b 0 9;twig 2 c 0 9;nest 0 2;nest 7 2;"
                        + "twig 5 x 1 9;twig 6 y 1 9;twig 7 z 1 9;")));
        CHECKS.test("promise 59, inspection: a nest whose last day this was protects no more", () ->
                seen("........", after(1, "hedge 8 1 0 1 1 1;twig 0 a 0 9;nest 0 1;")));
        CHECKS.test("promise 59, inspection: a nest with a day left does", () ->
                seen("a.......", after(1, "hedge 8 1 0 1 1 1;twig 0 a 0 9;nest 0 2;")));
        CHECKS.test("promise 59, inspection: twigs of both gardeners", () ->
                CHECKS.same(2, after(1, "hedge 8 1 0 1 1 1;twig 0 a 0 9;twig 7 b 1 9;").twigsPruned(), "twigsPruned()"));
        CHECKS.test("promise 59, inspection: the new length counts, not the old one", () ->
                CHECKS.same(1, after(1, "hedge 8 1 9 9 1 1;twig 0 a 0 1;").twigsPruned(), "twigsPruned()"));
    }

    private static void failing() {
        CHECKS.test("promise 59, inspection: a message in progress that lost a twig", () -> {
            HedgeMessages hedge = after(1, "hedge 8 2 1 1 1 1;message 0 abcd;message 0 e;");
            seen("........", hedge);
            CHECKS.same("e abcd", Hedges.pending(hedge, 0), "queue 0");
            CHECKS.same(HedgeMessages.NONE, hedge.startSlot(0), "startSlot(0)");
            CHECKS.same(false, hedge.isReserved(2), "isReserved(2)");
        });
        CHECKS.test("promise 59, inspection: a posted message that lost a twig", () -> {
            HedgeMessages hedge = after(1, "hedge 8 2 1 1 1 1;message 0 ab;message 0 c;");
            seen("........", hedge);
            CHECKS.same("c ab", Hedges.pending(hedge, 0), "queue 0");
            CHECKS.same(0, hedge.postedCount(0), "postedCount(0)");
        });
        CHECKS.test("promise 59, inspection: a message of one letter", () -> {
            HedgeMessages hedge = after(1, "hedge 8 1 1 1 1 1;message 0 a;");
            CHECKS.same("a", Hedges.pending(hedge, 0), "queue 0");
            CHECKS.same(1, hedge.twigsPruned(), "twigsPruned()");
            CHECKS.same(0, hedge.twigsRemoved(), "twigsRemoved()");
        });
        CHECKS.test("promise 59, inspection: a posted message that lost none stays", () -> {
            HedgeMessages hedge = after(1, "hedge 12 5 1 1 1 1;message 0 ab;message 0 c;message 0 de;nest 6 9;");
            seen("......*.....", hedge);
            CHECKS.same("ab c de", Hedges.pending(hedge, 0), "queue 0");
            HedgeMessages kept = after(1, "hedge 12 5 1 1 1 1;message 0 ab;message 0 c;message 0 de;nest 4 9;");
            seen("...c*.......", kept);
            CHECKS.same("ab de", Hedges.pending(kept, 0), "queue 0");
            CHECKS.same(1, kept.postedCount(0), "postedCount(0)");
            CHECKS.same(1, kept.endDays(1), "endDays(1)");
        });
        CHECKS.test("promise 59, inspection: a twig by hand beside a message is not one of its twigs", () -> {
            HedgeMessages hedge = after(1, "hedge 8 2 0 2 30 1;message 0 ab;");
            hedge.plant(2, 'x');
            hedge.endDays(1);
            CHECKS.same(1, hedge.messagesDelivered(0), "messagesDelivered(0)");
            seen("..X.....", hedge);
        });
        CHECKS.test("promise 59, inspection: the message in progress comes before the posted ones", () -> {
            HedgeMessages hedge = after(1, "hedge 16 4 1 1 1 1;message 0 a;message 0 b;message 0 cdef;");
            CHECKS.same("cdef a b", Hedges.pending(hedge, 0), "queue 0");
        });
        CHECKS.test("promise 59, inspection: that of gardener 1 before gardener 1's posted ones", () -> {
            HedgeMessages hedge = after(2, "hedge 16 4 1 1 2 1;message 1 a;message 1 b;message 1 cdef;");
            CHECKS.same("cdef a b", Hedges.pending(hedge, 1), "queue 1");
        });
        CHECKS.test("promise 59, inspection: the posted ones in the order in which they were posted", () -> {
            HedgeMessages hedge = after(1, "hedge 16 4 1 1 1 1;twig 3 q 1 1;message 0 abc;message 0 d;");
            // The abc stands behind the twig in slot 3 and the d before it.
            CHECKS.same("abc d", Hedges.pending(hedge, 0), "queue 0");
        });
        CHECKS.test("promise 59, inspection: messages in progress of both gardeners", () -> {
            HedgeMessages hedge = after(2, "hedge 16 1 1 1 2 1;message 0 abc;message 1 xyz;");
            seen("................", hedge);
            CHECKS.same("abc", Hedges.pending(hedge, 0), "queue 0");
            CHECKS.same("xyz", Hedges.pending(hedge, 1), "queue 1");
            CHECKS.same(2, hedge.messagesFailed(0) + hedge.messagesFailed(1), "messagesFailed");
        });
        CHECKS.test("promise 59, inspection: a failed message is written from its first letter on", () -> {
            HedgeMessages hedge = after(1, "hedge 8 2 1 1 1 1;message 0 abcd;");
            CHECKS.same(2, hedge.twigsPruned(), "twigsPruned(): a and b");
            hedge.setWorkLimit(1);
            hedge.addNest(1, 30);
            hedge.endDays(2);
            // The a stands beside the nest and is protected.
            seen(".*a===..", hedge);
            CHECKS.same(1, hedge.lettersWritten(0), "lettersWritten(0)");
            CHECKS.same(2, hedge.startSlot(0), "startSlot(0)");
        });
    }

    private static void fullQueues() {
        CHECKS.test("promise 59, inspection: a full queue drops the failed message", () -> {
            HedgeMessages hedge = after(1, "hedge 8 1 1 1 2 1;message 1 y;message 0 abc;" + "message 0 z;".repeat(7));
            CHECKS.same(8, Hedges.queue(hedge, 0, "last"), "queueMessage");
            hedge.endDays(1);
            CHECKS.same("z z z z z z z last", Hedges.pending(hedge, 0), "queue 0");
            CHECKS.same(1, hedge.messagesDropped(0), "messagesDropped(0)");
        });
        CHECKS.test("promise 59, inspection: the eighth place is taken", () -> {
            HedgeMessages hedge = after(2, "hedge 8 1 1 1 2 1;message 0 abc;" + "message 0 z;".repeat(7));
            CHECKS.same("z z z z z z z abc", Hedges.pending(hedge, 0), "queue 0");
            CHECKS.same(0, hedge.messagesDropped(0), "messagesDropped(0)");
        });
        CHECKS.test("promise 59, inspection: the last place is the one in progress's, not a posted one's", () -> {
            HedgeMessages hedge = after(1, "hedge 16 1 1 1 3 1;message 0 ab;message 0 cdef;" + "message 0 z;".repeat(6));
            CHECKS.same(8, Hedges.queue(hedge, 0, "y"), "queueMessage");
            hedge.setWorkLimit(3);
            hedge.endDays(2);
            CHECKS.same("z z z z z z y cdef", Hedges.pending(hedge, 0), "queue 0");
            CHECKS.same(2, hedge.messagesFailed(0), "messagesFailed(0)");
            CHECKS.same(1, hedge.messagesDropped(0), "messagesDropped(0)");
        });
        CHECKS.test("promise 59, inspection: the last place is the first posted one's", () -> {
            HedgeMessages hedge = after(1, "hedge 16 1 1 1 3 1;message 0 ab;message 0 cd;" + "message 0 z;".repeat(6));
            CHECKS.same(8, Hedges.queue(hedge, 0, "y"), "queueMessage");
            hedge.setWorkLimit(3);
            hedge.endDays(2);
            CHECKS.same("z z z z z z y ab", Hedges.pending(hedge, 0), "queue 0");
            CHECKS.same(2, hedge.messagesFailed(0), "messagesFailed(0)");
            CHECKS.same(1, hedge.messagesDropped(0), "messagesDropped(0)");
        });
        CHECKS.test("promise 59, inspection: each gardener's own queue", () -> {
            HedgeMessages hedge = after(1, "hedge 16 1 1 1 2 1;message 0 abc;" + "message 1 xyz;".repeat(8));
            hedge.endDays(1);
            CHECKS.same("abc", Hedges.pending(hedge, 0), "queue 0");
            CHECKS.same(8, hedge.pendingCount(1), "pendingCount(1)");
            CHECKS.same(0, hedge.messagesDropped(0) + hedge.messagesDropped(1), "messagesDropped");
        });
    }
}
