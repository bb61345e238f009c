/** Promises 40 to 51: a test of its own for each sentence of the document that names a boundary case. */
public final class CounterEdgesTest {
    private static final Checks CHECKS = new Checks();

    private CounterEdgesTest() {
    }

    public static void main(String[] args) {
        queued();
        delivered();
        failed();
        dropped();
        planted();
        pruned();
        removed();
        balances();
        meanLength();
        occupancy();
        refused();
        CHECKS.close();
    }

    private static void gardeners(String name, java.util.function.BiFunction<HedgeMessages, Integer, Integer> look) {
        CHECKS.test(name + " is 0 for both gardeners of an empty hedge", () -> {
            CHECKS.same(0, look.apply(Hedges.of("hedge 4 1 0 9 30 1;"), 0), name + "(0)");
            CHECKS.same(0, look.apply(Hedges.of("hedge 4 1 0 9 30 1;"), 1), name + "(1)");
        });
        CHECKS.test(name + " refuses gardeners -1 and 2", () ->
                CHECKS.gardenerOnly(name, gardener -> look.apply(new HedgeMessages(), gardener)));
    }

    // ---- Promises 40 to 43 ----

    private static void queued() {
        gardeners("promise 40: messagesQueued", HedgeMessages::messagesQueued);
        CHECKS.test("promise 40: the messages of the configuration count", () -> {
            HedgeMessages hedge = Hedges.of("hedge 4 1 0 9 30 1;" + "message 0 a;".repeat(8) + "message 1 b;");
            CHECKS.same(8, hedge.messagesQueued(0), "messagesQueued(0)");
            CHECKS.same(1, hedge.messagesQueued(1), "messagesQueued(1)");
        });
        CHECKS.test("promise 40: those of queueMessage and of a command count", () -> {
            HedgeMessages hedge = Hedges.of("hedge 4 1 0 9 30 1;");
            Hedges.queue(hedge, 1, "a");
            CHECKS.same(1, hedge.messagesQueued(1), "messagesQueued(1) after queueMessage");
            Hedges.run(hedge, "message 1 b;message 1 c;");
            CHECKS.same(3, hedge.messagesQueued(1), "messagesQueued(1) after executeCommands");
            CHECKS.same(0, hedge.messagesQueued(0), "messagesQueued(0)");
        });
        CHECKS.test("promise 40: a message that a full queue refuses doesn't count", () -> {
            HedgeMessages hedge = Hedges.of("hedge 4 1 0 9 30 1;" + "message 0 a;".repeat(8));
            Hedges.put(hedge, "b");
            CHECKS.badState("queueMessage(0)", () -> hedge.queueMessage(0));
            CHECKS.same(8, hedge.messagesQueued(0), "messagesQueued(0)");
        });
        CHECKS.test("promise 40: a failed message that returns to the queue doesn't count again", () -> {
            HedgeMessages hedge = Hedges.of("hedge 8 1 1 1 1 1;message 0 abc;");
            hedge.endDays(5);
            CHECKS.same(3, hedge.messagesFailed(0), "messagesFailed(0)");
            CHECKS.same(1, hedge.messagesQueued(0), "messagesQueued(0)");
        });
        CHECKS.test("promise 40: messages that left the queue still count", () -> {
            HedgeMessages hedge = Hedges.of("hedge 8 3 0 9 30 1;message 0 a;message 0 bc;message 0 def;");
            hedge.cancelMessage(0, 0);
            hedge.endDays(2);
            CHECKS.same(3, hedge.messagesQueued(0), "messagesQueued(0)");
        });
    }

    private static void delivered() {
        gardeners("promise 41: messagesDelivered", HedgeMessages::messagesDelivered);
        CHECKS.test("promise 41: a posted message is not yet delivered", () -> {
            HedgeMessages hedge = Hedges.of("hedge 8 3 0 9 30 1;message 0 abc;");
            hedge.endDays(1);
            CHECKS.same(0, hedge.messagesDelivered(0), "messagesDelivered(0) on day 1");
            hedge.endDays(1);
            CHECKS.same(1, hedge.messagesDelivered(0), "messagesDelivered(0) on day 2");
        });
        CHECKS.test("promise 41: each gardener's own", () -> {
            HedgeMessages hedge = Hedges.of("hedge 8 3 0 9 30 1;message 1 a;message 1 b;");
            hedge.endDays(3);
            CHECKS.same(2, hedge.messagesDelivered(1), "messagesDelivered(1)");
            CHECKS.same(0, hedge.messagesDelivered(0), "messagesDelivered(0)");
        });
        CHECKS.test("promise 41: 8 on one day", () -> {
            HedgeMessages hedge = Hedges.of("hedge 16 8 0 9 30 1;" + "message 0 a;".repeat(8));
            hedge.endDays(2);
            CHECKS.same(8, hedge.messagesDelivered(0), "messagesDelivered(0)");
        });
    }

    private static void failed() {
        gardeners("promise 42: messagesFailed", HedgeMessages::messagesFailed);
        CHECKS.test("promise 42: every failure of one message counts", () -> {
            HedgeMessages hedge = Hedges.of("hedge 8 1 1 1 1 1;message 0 abc;");
            hedge.endDays(1);
            CHECKS.same(1, hedge.messagesFailed(0), "messagesFailed(0) on day 1");
            hedge.endDays(1);
            CHECKS.same(1, hedge.messagesFailed(0), "messagesFailed(0) on day 2");
            hedge.endDays(1);
            CHECKS.same(2, hedge.messagesFailed(0), "messagesFailed(0) on day 3");
        });
        CHECKS.test("promise 42: one failure, however many twigs it lost", () -> {
            HedgeMessages hedge = Hedges.of("hedge 8 3 1 1 1 1;message 0 abcd;");
            hedge.endDays(1);
            CHECKS.same(3, hedge.twigsPruned(), "twigsPruned()");
            CHECKS.same(1, hedge.messagesFailed(0), "messagesFailed(0)");
        });
        CHECKS.test("promise 42: a message that lost no twig doesn't fail", () -> {
            HedgeMessages hedge = Hedges.of("hedge 8 1 1 2 1 1;message 0 abc;twig 5 q 0 9;");
            hedge.endDays(1);
            CHECKS.same(1, hedge.twigsPruned(), "twigsPruned()");
            CHECKS.same(0, hedge.messagesFailed(0), "messagesFailed(0)");
            CHECKS.same(1, hedge.lettersWritten(0), "lettersWritten(0)");
        });
        CHECKS.test("promise 42: slots that are not written yet are no lost twigs", () -> {
            HedgeMessages hedge = Hedges.of("hedge 8 1 0 1 1 1;message 0 abcd;");
            hedge.endDays(3);
            CHECKS.same("ab==....", Hedges.picture(hedge), "the hedge");
            CHECKS.same(0, hedge.messagesFailed(0), "messagesFailed(0)");
        });
        CHECKS.test("promise 42: the last letter alone is lost", () -> {
            HedgeMessages hedge = Hedges.of("hedge 4 2 1 1 1 1;message 0 ab;nest 0 9;nest 1 9;");
            hedge.endDays(1);
            CHECKS.same("**..", Hedges.picture(hedge), "the hedge");
            CHECKS.same(1, hedge.messagesFailed(0), "messagesFailed(0)");
            CHECKS.same(1, hedge.twigsPruned(), "twigsPruned()");
        });
        CHECKS.test("promise 42: the first letter alone is lost", () -> {
            HedgeMessages hedge = Hedges.of("hedge 4 2 1 1 1 1;message 0 ab;nest 2 9;nest 3 9;");
            hedge.endDays(1);
            CHECKS.same("..**", Hedges.picture(hedge), "the hedge");
            CHECKS.same(1, hedge.messagesFailed(0), "messagesFailed(0)");
            CHECKS.same(1, hedge.twigsPruned(), "twigsPruned()");
        });
        CHECKS.test("promise 42: the last written letter of a message in progress alone is lost", () -> {
            HedgeMessages hedge = Hedges.of("hedge 8 2 1 1 1 1;message 0 abcd;nest 0 9;");
            hedge.endDays(1);
            CHECKS.same("*.......", Hedges.picture(hedge), "the hedge");
            CHECKS.same(1, hedge.messagesFailed(0), "messagesFailed(0)");
            CHECKS.same(1, hedge.twigsPruned(), "twigsPruned()");
        });
        CHECKS.test("promise 42: those that were dropped count, too", () -> {
            HedgeMessages hedge = fullQueue();
            hedge.endDays(1);
            CHECKS.same(1, hedge.messagesFailed(0), "messagesFailed(0)");
            CHECKS.same(1, hedge.messagesDropped(0), "messagesDropped(0)");
        });
        CHECKS.test("promise 42: a cancelled message did not fail", () -> {
            HedgeMessages hedge = Hedges.of("hedge 8 1 0 9 30 1;message 0 a;");
            hedge.cancelMessage(0, 0);
            CHECKS.same(0, hedge.messagesFailed(0), "messagesFailed(0)");
        });
        CHECKS.test("promise 42: each gardener's own", () -> {
            HedgeMessages hedge = Hedges.of("hedge 8 1 1 1 2 1;message 1 abc;");
            hedge.endDays(2);
            CHECKS.same(1, hedge.messagesFailed(1), "messagesFailed(1)");
            CHECKS.same(0, hedge.messagesFailed(0), "messagesFailed(0)");
        });
    }

    /** Day 1 of 2 until an inspection, in which abc of gardener 0 will fail; 8 messages are pending. */
    private static HedgeMessages fullQueue() {
        HedgeMessages hedge = Hedges.of("hedge 8 1 1 1 2 1;message 0 abc;" + "message 0 z;".repeat(7));
        hedge.endDays(1);
        Hedges.queue(hedge, 0, "last");
        return hedge;
    }

    private static void dropped() {
        gardeners("promise 43: messagesDropped", HedgeMessages::messagesDropped);
        CHECKS.test("promise 43: a failed message that finds 8 pending messages", () -> {
            HedgeMessages hedge = fullQueue();
            hedge.endDays(1);
            CHECKS.same(1, hedge.messagesDropped(0), "messagesDropped(0)");
            CHECKS.same("z z z z z z z last", Hedges.pending(hedge, 0), "queue 0");
        });
        CHECKS.test("promise 43: not one that finds 7", () -> {
            HedgeMessages hedge = fullQueue();
            hedge.cancelMessage(0, 7);
            hedge.endDays(1);
            CHECKS.same(1, hedge.messagesDropped(0), "messagesDropped(0), the cancelled one");
            CHECKS.same("z z z z z z z abc", Hedges.pending(hedge, 0), "queue 0");
        });
        CHECKS.test("promise 43: not one that finds the other's queue full", () -> {
            HedgeMessages hedge = Hedges.of("hedge 8 1 1 1 1 1;message 0 abc;" + "message 1 z;".repeat(8));
            hedge.endDays(1);
            CHECKS.same(0, hedge.messagesDropped(0) + hedge.messagesDropped(1), "messagesDropped");
            CHECKS.same("abc", Hedges.pending(hedge, 0), "queue 0");
        });
        CHECKS.test("promise 43: a cancelled message", () -> {
            HedgeMessages hedge = Hedges.of("hedge 8 1 0 9 30 1;message 0 a;message 1 b;");
            hedge.cancelMessage(1, 0);
            CHECKS.same(1, hedge.messagesDropped(1), "messagesDropped(1)");
            CHECKS.same(0, hedge.messagesDropped(0), "messagesDropped(0)");
        });
        CHECKS.test("promise 43: a cancelMessage that is refused drops nothing", () -> {
            HedgeMessages hedge = Hedges.of("hedge 8 1 0 9 30 1;message 0 a;");
            CHECKS.badIndex("cancelMessage(0, 1)", () -> hedge.cancelMessage(0, 1));
            CHECKS.same(0, hedge.messagesDropped(0), "messagesDropped(0)");
        });
    }

    // ---- Promises 44 to 46 ----

    private static void planted() {
        CHECKS.test("promise 44: none", () ->
                CHECKS.same(0, Hedges.of("hedge 4 1 0 9 30 1;nest 0 9;message 0 a;").twigsPlanted(), "twigsPlanted()"));
        CHECKS.test("promise 44: those of the configuration count", () ->
                CHECKS.same(2, Hedges.of("hedge 4 1 0 9 30 1;twig 0 a 0 1;twig 3 b 1 9;").twigsPlanted(), "twigsPlanted()"));
        CHECKS.test("promise 44: those by hand and each letter of a message count", () -> {
            HedgeMessages hedge = Hedges.of("hedge 8 3 0 9 30 1;message 0 abc;");
            hedge.plant(7, 'q');
            CHECKS.same(1, hedge.twigsPlanted(), "twigsPlanted() by hand");
            hedge.endDays(1);
            CHECKS.same(3, hedge.twigsPlanted(), "twigsPlanted() with two letters");
        });
        CHECKS.test("promise 44: a letter that is written again counts again", () -> {
            HedgeMessages hedge = Hedges.of("hedge 8 1 1 1 1 1;message 0 a;");
            hedge.endDays(3);
            CHECKS.same(2, hedge.twigsPlanted(), "twigsPlanted()");
        });
        CHECKS.test("promise 44: a refused plant doesn't count", () -> {
            HedgeMessages hedge = Hedges.of("hedge 4 1 0 9 30 1;twig 0 a 0 1;");
            CHECKS.badState("plant(0, b)", () -> hedge.plant(0, 'b'));
            CHECKS.same(1, hedge.twigsPlanted(), "twigsPlanted()");
        });
    }

    private static void pruned() {
        CHECKS.test("promise 45: none without an inspection", () -> {
            HedgeMessages hedge = Hedges.of("hedge 4 1 9 1 30 1;twig 0 a 0 9;");
            hedge.endDays(29);
            CHECKS.same(0, hedge.twigsPruned(), "twigsPruned() on day 29");
            hedge.endDays(1);
            CHECKS.same(1, hedge.twigsPruned(), "twigsPruned() on day 30");
        });
        CHECKS.test("promise 45: none of the legal length", () -> {
            HedgeMessages hedge = Hedges.of("hedge 4 1 0 5 1 1;twig 0 a 0 5;twig 2 b 0 6;");
            hedge.endDays(1);
            CHECKS.same(1, hedge.twigsPruned(), "twigsPruned()");
            CHECKS.same("a...", Hedges.picture(hedge), "the hedge");
        });
        CHECKS.test("promise 45: every slot of 40", () -> {
            StringBuilder text = new StringBuilder("hedge 40 1 1 1 1 1;");
            for (int slot = 0; slot < 40; slot++) {
                text.append("twig ").append(slot).append(" a 0 1;");
            }
            HedgeMessages hedge = Hedges.of(text.toString());
            hedge.endDays(1);
            CHECKS.same(40, hedge.twigsPruned(), "twigsPruned()");
            CHECKS.same(0, hedge.twigCount(), "twigCount()");
        });
        CHECKS.test("promise 45: none that was removed by hand, by a delivery or by a failure", () -> {
            HedgeMessages hedge = Hedges.of("hedge 8 2 0 9 1 1;message 0 a;twig 5 q 0 1;");
            hedge.remove(5);
            hedge.endDays(2);
            CHECKS.same(2, hedge.twigsRemoved(), "twigsRemoved()");
            CHECKS.same(0, hedge.twigsPruned(), "twigsPruned()");
        });
    }

    private static void removed() {
        CHECKS.test("promise 46: none", () -> CHECKS.same(0, new HedgeMessages().twigsRemoved(), "twigsRemoved()"));
        CHECKS.test("promise 46: one by hand", () -> {
            HedgeMessages hedge = new HedgeMessages();
            hedge.remove(2);
            CHECKS.same(1, hedge.twigsRemoved(), "twigsRemoved()");
        });
        CHECKS.test("promise 46: each letter of a delivered message", () -> {
            HedgeMessages hedge = Hedges.of("hedge 12 12 0 9 30 1;message 0 abcdefghijkl;");
            hedge.endDays(2);
            CHECKS.same(12, hedge.twigsRemoved(), "twigsRemoved()");
        });
        CHECKS.test("promise 46: the letters of a failed message that were not pruned", () -> {
            HedgeMessages hedge = Hedges.of("hedge 8 4 1 1 1 1;message 0 abcd;nest 0 9;nest 5 9;");
            hedge.endDays(1);
            // The a stood beside the nest in 0 and the d beside the one in 5.
            CHECKS.same("*....*..", Hedges.picture(hedge), "the hedge");
            CHECKS.same(2, hedge.twigsPruned(), "twigsPruned(): b and c");
            CHECKS.same(2, hedge.twigsRemoved(), "twigsRemoved(): a and d");
        });
        CHECKS.test("promise 46: none that was pruned", () -> {
            HedgeMessages hedge = Hedges.of("hedge 4 1 1 1 1 1;twig 0 a 0 1;");
            hedge.endDays(1);
            CHECKS.same(1, hedge.twigsPruned(), "twigsPruned()");
            CHECKS.same(0, hedge.twigsRemoved(), "twigsRemoved()");
        });
        CHECKS.test("promise 46: a refused remove doesn't count", () -> {
            HedgeMessages hedge = new HedgeMessages();
            CHECKS.badState("remove(9)", () -> hedge.remove(9));
            CHECKS.same(0, hedge.twigsRemoved(), "twigsRemoved()");
        });
    }

    // ---- Promises 47 to 49 ----

    private static void balanced(String what, HedgeMessages hedge) {
        CHECKS.same(0, hedge.twigImbalance(), "twigImbalance() " + what);
        CHECKS.same(0, hedge.messageImbalance(), "messageImbalance() " + what);
        CHECKS.same(0, hedge.wrongLetters(), "wrongLetters() " + what);
    }

    private static void balances() {
        CHECKS.test("promises 47 to 49: 0 in a new object and in an empty hedge", () -> {
            balanced("of a new object", new HedgeMessages());
            balanced("of an empty hedge", Hedges.of("hedge 4 1 0 9 30 1;"));
        });
        CHECKS.test("promise 47: 0 after each way in which a twig comes and goes", () -> {
            HedgeMessages hedge = Hedges.of("hedge 16 3 2 3 3 1;twig 15 q 0 9;twig 0 r 0 1;message 0 abcd;message 1 e;");
            hedge.plant(14, 's');
            balanced("after plant", hedge);
            hedge.remove(0);
            balanced("after remove", hedge);
            for (int day = 0; day < 12; day++) {
                hedge.endDays(1);
                balanced("on day " + hedge.day(), hedge);
            }
            hedge.undo();
            balanced("after undo", hedge);
        });
        CHECKS.test("promise 48: 0 with pending, started, posted, delivered, failed, dropped and cancelled ones", () -> {
            HedgeMessages hedge = fullQueue();
            balanced("with a message in progress and a full queue", hedge);
            hedge.endDays(1);
            balanced("with a dropped message", hedge);
            hedge.cancelMessage(0, 7);
            balanced("with a cancelled message", hedge);
            hedge.endDays(1);
            CHECKS.same(1, hedge.postedCount(0), "postedCount(0)");
            balanced("with a posted message", hedge);
            hedge.endDays(20);
            balanced("in the end", hedge);
        });
        CHECKS.test("promise 49: 0 while letters are written and trimmed", () -> {
            HedgeMessages hedge = Hedges.of("hedge 16 1 2 99 30 1;message 0 abcdef;message 1 uvwxyz;");
            for (int day = 0; day < 11; day++) {
                hedge.endDays(1);
                balanced("on day " + hedge.day(), hedge);
                if (hedge.trimReason(0) == HedgeMessages.ALLOWED) {
                    hedge.trim(0, 99);
                    balanced("after trim", hedge);
                    hedge.undo();
                }
            }
        });
    }

    // ---- Promises 50 and 51 ----

    private static void meanLength() {
        CHECKS.test("promise 50: 0.0f without twigs", () -> {
            CHECKS.same(0.0f, Hedges.of("hedge 4 1 0 9 30 1;nest 0 9;").meanLength(), "meanLength()");
            CHECKS.same(0, Float.floatToRawIntBits(Hedges.of("hedge 4 1 0 9 30 1;").meanLength()), "its sign");
        });
        CHECKS.test("promise 50: one twig", () -> {
            CHECKS.same(1.0f, Hedges.of("hedge 4 1 0 9 30 1;twig 0 a 0 1;").meanLength(), "meanLength() of 1 cm");
            CHECKS.same(99.0f, Hedges.of("hedge 4 1 0 9 30 1;twig 3 a 1 99;").meanLength(), "meanLength() of 99 cm");
        });
        CHECKS.test("promise 50: a quotient that a float can't hold", () -> {
            HedgeMessages hedge = Hedges.of("hedge 4 1 0 9 30 1;twig 0 a 0 1;twig 1 b 0 2;twig 3 c 0 2;");
            CHECKS.same(5.0f / 3.0f, hedge.meanLength(), "meanLength() of 5 and 3");
        });
        CHECKS.test("promise 50: the twigs of both gardeners, by hand and of messages", () -> {
            HedgeMessages hedge = Hedges.of("hedge 8 1 2 99 30 1;message 0 abc;twig 7 q 1 9;");
            hedge.endDays(1);
            CHECKS.same(7.0f, hedge.meanLength(), "meanLength() of 3 and 11");
        });
    }

    private static void occupancy() {
        CHECKS.test("promise 51: 0.0 without twigs", () ->
                CHECKS.same(0.0, Hedges.of("hedge 4 1 0 9 30 1;nest 0 9;").occupancy(), "occupancy()"));
        CHECKS.test("promise 51: 1.0 with a twig in every slot", () -> CHECKS.same(1.0, Hedges.of("hedge 4 1 0 9 30 1;"
                + "twig 0 a 0 1;twig 1 b 0 1;twig 2 c 0 1;twig 3 d 1 1;").occupancy(), "occupancy()"));
        CHECKS.test("promise 51: a quotient that a double can't hold", () -> {
            CHECKS.same(1.0 / 7.0, Hedges.of("hedge 7 1 0 9 30 1;twig 6 a 0 1;").occupancy(), "occupancy() of 1 in 7");
            CHECKS.same(2.0 / 39.0, Hedges.of("hedge 39 1 0 9 30 1;twig 6 a 0 1;twig 38 b 0 1;").occupancy(),
                    "occupancy() of 2 in 39");
        });
        CHECKS.test("promise 51: reserved slots without a twig don't count", () -> {
            HedgeMessages hedge = Hedges.of("hedge 8 1 0 9 30 1;message 0 abcd;");
            hedge.endDays(1);
            CHECKS.same(0.125, hedge.occupancy(), "occupancy()");
        });
    }

    private static void refused() {
        CHECKS.test("promises 40 to 43: refused questions leave all as it was", () -> {
            Witness witness = new Witness(CHECKS, fullQueue());
            HedgeMessages hedge = witness.hedge;
            witness.refusesArgument("messagesQueued(2)", () -> hedge.messagesQueued(2));
            witness.refusesArgument("messagesDelivered(-1)", () -> hedge.messagesDelivered(-1));
            witness.refusesArgument("messagesFailed(2)", () -> hedge.messagesFailed(2));
            witness.refusesArgument("messagesDropped(-1)", () -> hedge.messagesDropped(-1));
            witness.close();
        });
    }
}
