import java.util.function.IntUnaryOperator;

/** Promises 8 to 34: a test of its own for each sentence of the document that names a boundary case. */
public final class ViewEdgesTest {
    private static final Checks CHECKS = new Checks();

    private ViewEdgesTest() {
    }

    public static void main(String[] args) {
        days();
        twigs();
        reserved();
        nests();
        queues();
        messagesInProgress();
        postedMessages();
        startSlots();
        freeRuns();
        yards();
        plantReasons();
        removeReasons();
        trimReasons();
        writeReasons();
        keepReasons();
        inspections();
        looksChangeNothing();
        CHECKS.close();
    }

    /** A slot must be refused below 0 and from the number of slots on, and only there. */
    private static void slots(String name, java.util.function.BiFunction<HedgeMessages, Integer, Object> look) {
        CHECKS.test(name + " takes the first and the last slot", () -> {
            for (int slots : new int[] {4, 16, 40}) {
                HedgeMessages hedge = Hedges.of("hedge " + slots + " 1 0 9 30 1;");
                look.apply(hedge, 0);
                look.apply(hedge, slots - 1);
            }
        });
        CHECKS.test(name + " refuses the slot below the first one", () -> {
            CHECKS.badIndex("slot -1", () -> look.apply(new HedgeMessages(), -1));
            CHECKS.badIndex("slot MIN", () -> look.apply(new HedgeMessages(), Integer.MIN_VALUE));
        });
        CHECKS.test(name + " refuses the slot above the last one", () -> {
            for (int slots : new int[] {4, 16, 40}) {
                HedgeMessages hedge = Hedges.of("hedge " + slots + " 1 0 9 30 1;");
                CHECKS.badIndex("slot " + slots, () -> look.apply(hedge, slots));
                CHECKS.badIndex("slot " + (slots + 1), () -> look.apply(hedge, slots + 1));
                CHECKS.badIndex("slot MAX", () -> look.apply(hedge, Integer.MAX_VALUE));
            }
        });
    }

    private static void gardeners(String name, java.util.function.BiFunction<HedgeMessages, Integer, Object> look) {
        CHECKS.test(name + " takes gardeners 0 and 1", () -> {
            look.apply(new HedgeMessages(), 0);
            look.apply(new HedgeMessages(), 1);
        });
        CHECKS.test(name + " refuses gardeners -1 and 2", () ->
                CHECKS.gardenerOnly(name, gardener -> look.apply(new HedgeMessages(), gardener)));
    }

    /** What a question answers of every slot, one sign each. */
    private static String signs(HedgeMessages hedge, IntUnaryOperator look) {
        StringBuilder signs = new StringBuilder();
        for (int slot = 0; slot < hedge.slotCount(); slot++) {
            signs.append((char) look.applyAsInt(slot));
        }
        return signs.toString();
    }

    private static String reservedSigns(HedgeMessages hedge) {
        return signs(hedge, slot -> hedge.isReserved(slot) ? 'r' : '-');
    }

    private static String protectedSigns(HedgeMessages hedge) {
        return signs(hedge, slot -> hedge.isProtected(slot) ? 'p' : '-');
    }

    // ---- Promises 8 to 12 ----

    private static void days() {
        CHECKS.test("promise 8: the least number of slots", () ->
                CHECKS.same(4, Hedges.of("hedge 4 1 0 9 30 1;").slotCount(), "slotCount()"));
        CHECKS.test("promise 8: the greatest number of slots", () ->
                CHECKS.same(40, Hedges.of("hedge 40 1 0 9 30 1;").slotCount(), "slotCount()"));
        CHECKS.test("promise 9: the first day is 0", () -> {
            CHECKS.same(0, new HedgeMessages().day(), "day()");
            CHECKS.same(0, Hedges.of("hedge 4 1 0 9 30 1;").day(), "day() after load");
        });
        CHECKS.test("promise 9: each day is one more", () -> {
            HedgeMessages hedge = new HedgeMessages();
            hedge.endDays(1);
            CHECKS.same(1, hedge.day(), "day()");
            hedge.endDays(60);
            CHECKS.same(61, hedge.day(), "day()");
        });
        CHECKS.test("promise 9: the day of 512 calls of 60 days", () -> {
            HedgeMessages hedge = Hedges.of("hedge 4 1 9 99 30 1;twig 3 a 0 9;");
            for (int call = 0; call < 510; call++) {
                hedge.endDays(60);
            }
            CHECKS.same(30600, hedge.day(), "day()");
        });
        CHECKS.test("promise 10: gardener 0 on day 0", () ->
                CHECKS.same(0, new HedgeMessages().activeGardener(), "activeGardener()"));
        CHECKS.test("promise 10: gardener 1 on day 1 and 0 again on day 2", () -> {
            HedgeMessages hedge = new HedgeMessages();
            hedge.endDays(1);
            CHECKS.same(1, hedge.activeGardener(), "activeGardener() on day 1");
            hedge.endDays(1);
            CHECKS.same(0, hedge.activeGardener(), "activeGardener() on day 2");
            hedge.endDays(59);
            CHECKS.same(1, hedge.activeGardener(), "activeGardener() on day 61");
        });
        CHECKS.test("promise 11: the least and the greatest work limit", () -> {
            CHECKS.same(1, Hedges.of("hedge 4 1 0 9 30 1;").workLimit(), "workLimit() of 1");
            CHECKS.same(12, Hedges.of("hedge 4 12 0 9 30 1;").workLimit(), "workLimit() of 12");
        });
        CHECKS.test("promise 11: a new work limit is told on the same day", () -> {
            HedgeMessages hedge = new HedgeMessages();
            hedge.setWorkLimit(12);
            CHECKS.same(12, hedge.workLimit(), "workLimit()");
        });
        CHECKS.test("promise 12: all actions on the first day", () -> {
            CHECKS.same(1, Hedges.of("hedge 4 1 0 9 30 1;").actionsLeft(), "actionsLeft() of 1");
            CHECKS.same(12, Hedges.of("hedge 4 12 0 9 30 1;").actionsLeft(), "actionsLeft() of 12");
        });
        CHECKS.test("promise 12: never negative", () -> {
            HedgeMessages hedge = Hedges.of("hedge 8 1 0 9 30 1;");
            hedge.plant(0, 'a');
            CHECKS.same(0, hedge.actionsLeft(), "actionsLeft() after the last action");
            CHECKS.badState("plant without actions", () -> hedge.plant(1, 'b'));
            CHECKS.badState("trim without actions", () -> hedge.trim(0, 1));
            CHECKS.badState("remove without actions", () -> hedge.remove(0));
            CHECKS.same(0, hedge.actionsLeft(), "actionsLeft() after refused calls");
        });
        CHECKS.test("promise 12: planting, removing and trimming take one action each", () -> {
            HedgeMessages hedge = Hedges.of("hedge 8 4 0 9 30 1;");
            hedge.plant(0, 'a');
            CHECKS.same(3, hedge.actionsLeft(), "actionsLeft() after plant");
            hedge.trim(0, 99);
            CHECKS.same(2, hedge.actionsLeft(), "actionsLeft() after trim");
            hedge.remove(0);
            CHECKS.same(1, hedge.actionsLeft(), "actionsLeft() after remove");
        });
        CHECKS.test("promise 12: nothing else takes an action", () -> {
            HedgeMessages hedge = Hedges.of("hedge 8 4 0 9 30 1;");
            hedge.addNest(0, 9);
            Hedges.queue(hedge, 0, "a");
            hedge.cancelMessage(0, 0);
            hedge.setWorkLimit(9);
            hedge.save();
            hedge.restore();
            CHECKS.same(4, hedge.actionsLeft(), "actionsLeft()");
        });
        CHECKS.test("promise 12: the actions that are left don't go over to the next day", () -> {
            HedgeMessages hedge = Hedges.of("hedge 8 4 0 9 30 1;");
            hedge.plant(0, 'a');
            hedge.endDays(1);
            CHECKS.same(4, hedge.actionsLeft(), "actionsLeft() on the next day");
        });
        CHECKS.test("promise 12: after the last action all come back on the next day", () -> {
            HedgeMessages hedge = Hedges.of("hedge 8 1 0 9 30 1;");
            hedge.plant(0, 'a');
            hedge.endDays(1);
            CHECKS.same(1, hedge.actionsLeft(), "actionsLeft() on the next day");
        });
    }

    // ---- Promises 13 to 16 ----

    private static void twigs() {
        CHECKS.test("promise 13: no twig", () -> CHECKS.same(0, Hedges.of("hedge 4 1 0 9 30 1;").twigCount(), "twigCount()"));
        CHECKS.test("promise 13: a twig in every slot", () -> CHECKS.same(4, full().twigCount(), "twigCount()"));
        CHECKS.test("promise 13: reserved slots without a twig don't count", () ->
                CHECKS.same(1, halfWritten().twigCount(), "twigCount()"));
        CHECKS.test("promise 14: a and z", () -> {
            CHECKS.same(97, full().letterAt(0), "letterAt(0)");
            CHECKS.same(122, full().letterAt(3), "letterAt(3)");
        });
        CHECKS.test("promise 14: NONE without a twig", () -> {
            HedgeMessages hedge = Hedges.of("hedge 4 1 0 9 30 1;nest 0 9;");
            CHECKS.same(HedgeMessages.NONE, hedge.letterAt(0), "letterAt(0) of a nest");
            CHECKS.same(HedgeMessages.NONE, hedge.letterAt(3), "letterAt(3)");
            CHECKS.same(HedgeMessages.NONE, halfWritten().letterAt(1), "letterAt(1) of a reserved slot");
        });
        CHECKS.test("promise 14: NONE where a twig was", () -> {
            HedgeMessages hedge = Hedges.of("hedge 4 1 0 9 30 1;twig 0 a 0 1;");
            hedge.remove(0);
            CHECKS.same(HedgeMessages.NONE, hedge.letterAt(0), "letterAt(0)");
        });
        slots("promise 14: letterAt", HedgeMessages::letterAt);
        CHECKS.test("promise 15: owners 0 and 1", () -> {
            CHECKS.same(0, full().ownerAt(0), "ownerAt(0)");
            CHECKS.same(1, full().ownerAt(3), "ownerAt(3)");
        });
        CHECKS.test("promise 15: NONE without a twig", () -> {
            CHECKS.same(HedgeMessages.NONE, Hedges.of("hedge 4 1 0 9 30 1;nest 0 9;").ownerAt(0), "ownerAt(0) of a nest");
            CHECKS.same(HedgeMessages.NONE, halfWritten().ownerAt(1), "ownerAt(1) of a reserved slot");
        });
        CHECKS.test("promise 15: NONE where a twig of gardener 1 was", () -> {
            HedgeMessages hedge = Hedges.of("hedge 4 1 0 9 30 1;twig 0 a 1 1;");
            hedge.endDays(1);
            hedge.remove(0);
            CHECKS.same(HedgeMessages.NONE, hedge.ownerAt(0), "ownerAt(0)");
        });
        slots("promise 15: ownerAt", HedgeMessages::ownerAt);
        CHECKS.test("promise 16: the least and the greatest length of a configuration", () -> {
            CHECKS.same(1, full().lengthAt(0), "lengthAt(0)");
            CHECKS.same(99, full().lengthAt(3), "lengthAt(3)");
        });
        CHECKS.test("promise 16: 0 without a twig", () -> {
            CHECKS.same(0, Hedges.of("hedge 4 1 9 9 30 1;nest 0 9;").lengthAt(0), "lengthAt(0) of a nest");
            CHECKS.same(0, halfWritten().lengthAt(1), "lengthAt(1) of a reserved slot");
        });
        CHECKS.test("promise 16: an empty slot doesn't grow", () -> {
            HedgeMessages hedge = Hedges.of("hedge 4 1 9 9 30 1;");
            hedge.endDays(3);
            CHECKS.same(0, hedge.lengthAt(0), "lengthAt(0)");
        });
        CHECKS.test("promise 16: a length may go beyond 99", () -> {
            HedgeMessages hedge = Hedges.of("hedge 4 1 9 99 30 1;twig 0 a 0 99;nest 1 30;");
            hedge.endDays(1);
            CHECKS.same(108, hedge.lengthAt(0), "lengthAt(0)");
            hedge.endDays(28);
            CHECKS.same(99 + 29 * 9, hedge.lengthAt(0), "lengthAt(0) after 29 days");
        });
        CHECKS.test("promise 16: a growth rate of 0", () -> {
            HedgeMessages hedge = Hedges.of("hedge 4 1 0 99 30 1;twig 0 a 0 7;");
            hedge.endDays(60);
            CHECKS.same(7, hedge.lengthAt(0), "lengthAt(0)");
        });
        slots("promise 16: lengthAt", HedgeMessages::lengthAt);
    }

    private static HedgeMessages full() {
        return Hedges.of("hedge 4 1 0 9 30 1;twig 0 a 0 1;twig 1 b 0 1;twig 2 c 0 1;twig 3 z 1 99;");
    }

    /** Slots 0 to 2 are reserved and a is written. */
    private static HedgeMessages halfWritten() {
        HedgeMessages hedge = Hedges.of("hedge 8 1 0 9 30 1;message 0 abc;");
        hedge.endDays(1);
        return hedge;
    }

    // ---- Promises 17 to 20 ----

    private static void reserved() {
        CHECKS.test("promise 17: a pending message reserves nothing", () -> CHECKS.same("--------",
                reservedSigns(Hedges.of("hedge 8 1 0 9 30 1;message 0 abc;")), "isReserved"));
        CHECKS.test("promise 17: a message in progress reserves one slot for each letter", () -> {
            HedgeMessages hedge = Hedges.of("hedge 8 1 0 9 30 1;nest 0 9;message 0 abc;");
            hedge.endDays(1);
            CHECKS.same("-rrr----", reservedSigns(hedge), "isReserved");
        });
        CHECKS.test("promise 17: up to the last slot", () -> {
            HedgeMessages hedge = Hedges.of("hedge 12 1 0 9 30 1;message 0 abcdefghijkl;");
            hedge.endDays(1);
            CHECKS.same("rrrrrrrrrrrr", reservedSigns(hedge), "isReserved");
        });
        CHECKS.test("promise 17: a posted message still does", () -> {
            HedgeMessages hedge = Hedges.of("hedge 8 3 0 9 30 1;message 0 abc;");
            hedge.endDays(1);
            CHECKS.same(1, hedge.postedCount(0), "postedCount(0)");
            CHECKS.same("rrr-----", reservedSigns(hedge), "isReserved");
        });
        CHECKS.test("promise 17: a delivered message no longer", () -> {
            HedgeMessages hedge = Hedges.of("hedge 8 3 0 9 30 1;message 0 abc;");
            hedge.endDays(2);
            CHECKS.same("--------", reservedSigns(hedge), "isReserved");
        });
        CHECKS.test("promise 17: a failed message no longer", () -> {
            HedgeMessages hedge = Hedges.of("hedge 8 2 9 1 1 1;message 0 abc;");
            hedge.endDays(1);
            CHECKS.same("--------", reservedSigns(hedge), "isReserved");
        });
        CHECKS.test("promise 17: a twig and a nest by themselves reserve nothing", () -> CHECKS.same("--------",
                reservedSigns(Hedges.of("hedge 8 1 0 9 30 1;twig 3 a 0 1;nest 5 9;")), "isReserved"));
        slots("promise 17: isReserved", HedgeMessages::isReserved);
    }

    private static void nests() {
        CHECKS.test("promise 18: from 1 day to 30 days", () -> {
            HedgeMessages hedge = Hedges.of("hedge 8 1 0 9 30 1;nest 0 1;nest 7 30;");
            CHECKS.same(1, hedge.nestDays(0), "nestDays(0)");
            CHECKS.same(30, hedge.nestDays(7), "nestDays(7)");
        });
        CHECKS.test("promise 18: 0 without a nest", () -> {
            HedgeMessages hedge = Hedges.of("hedge 8 1 0 9 30 1;nest 3 9;twig 2 a 0 1;");
            CHECKS.same(0, hedge.nestDays(2), "nestDays(2) beside a nest");
            CHECKS.same(0, hedge.nestDays(4), "nestDays(4) beside a nest");
        });
        CHECKS.test("promise 18: one less each day, down to 0 and no further", () -> {
            HedgeMessages hedge = Hedges.of("hedge 8 1 0 9 30 1;nest 3 2;");
            hedge.endDays(1);
            CHECKS.same(1, hedge.nestDays(3), "nestDays(3) after a day");
            hedge.endDays(1);
            CHECKS.same(0, hedge.nestDays(3), "nestDays(3) after two days");
            hedge.endDays(1);
            CHECKS.same(0, hedge.nestDays(3), "nestDays(3) after three days");
        });
        slots("promise 18: nestDays", HedgeMessages::nestDays);
        CHECKS.test("promise 19: the slot itself and its neighbours", () -> CHECKS.same("--ppp---",
                protectedSigns(Hedges.of("hedge 8 1 0 9 30 1;nest 3 1;")), "isProtected"));
        CHECKS.test("promise 19: a nest in the first slot", () -> CHECKS.same("pp------",
                protectedSigns(Hedges.of("hedge 8 1 0 9 30 1;nest 0 1;")), "isProtected"));
        CHECKS.test("promise 19: a nest in the last slot", () -> {
            CHECKS.same("------pp", protectedSigns(Hedges.of("hedge 8 1 0 9 30 1;nest 7 1;")), "isProtected of 8");
            CHECKS.same("-".repeat(38) + "pp", protectedSigns(Hedges.of("hedge 40 1 0 9 30 1;nest 39 1;")),
                    "isProtected of 40");
        });
        CHECKS.test("promise 19: two nests about one slot", () -> CHECKS.same("-ppppp--",
                protectedSigns(Hedges.of("hedge 8 1 0 9 30 1;nest 2 1;nest 4 1;")), "isProtected"));
        CHECKS.test("promise 19: no nest", () -> CHECKS.same("--------",
                protectedSigns(Hedges.of("hedge 8 1 0 9 30 1;twig 3 a 0 1;")), "isProtected"));
        CHECKS.test("promise 19: a nest that is gone", () -> {
            HedgeMessages hedge = Hedges.of("hedge 8 1 0 9 30 1;nest 3 1;");
            hedge.endDays(1);
            CHECKS.same("--------", protectedSigns(hedge), "isProtected");
        });
        slots("promise 19: isProtected", HedgeMessages::isProtected);
        CHECKS.test("promise 20: no nest", () -> CHECKS.same(0, Hedges.of("hedge 4 1 0 9 30 1;").nestCount(), "nestCount()"));
        CHECKS.test("promise 20: 6 nests", () -> CHECKS.same(6, Hedges.of("hedge 6 1 0 9 30 1;nest 0 1;nest 1 1;"
                + "nest 2 1;nest 3 1;nest 4 1;nest 5 1;").nestCount(), "nestCount()"));
        CHECKS.test("promise 20: a nest above a twig counts and is gone after its days", () -> {
            HedgeMessages hedge = Hedges.of("hedge 4 1 0 9 30 1;twig 3 a 0 1;nest 3 1;nest 0 2;");
            CHECKS.same(2, hedge.nestCount(), "nestCount()");
            hedge.endDays(1);
            CHECKS.same(1, hedge.nestCount(), "nestCount() after a day");
        });
    }

    // ---- Promises 21 to 25 ----

    private static void queues() {
        CHECKS.test("promise 21: an empty queue", () -> {
            HedgeMessages hedge = Hedges.of("hedge 4 1 0 9 30 1;");
            CHECKS.same(0, hedge.pendingCount(0) + hedge.pendingCount(1), "pendingCount");
        });
        CHECKS.test("promise 21: a full queue", () -> {
            HedgeMessages hedge = Hedges.of("hedge 4 1 0 9 30 1;" + "message 1 a;".repeat(8));
            CHECKS.same(8, hedge.pendingCount(1), "pendingCount(1)");
            CHECKS.same(0, hedge.pendingCount(0), "pendingCount(0)");
        });
        CHECKS.test("promise 21: a message leaves the queue when its sender starts to write it", () -> {
            HedgeMessages hedge = Hedges.of("hedge 8 1 0 9 30 1;message 0 abc;message 0 d;");
            hedge.endDays(1);
            CHECKS.same(1, hedge.pendingCount(0), "pendingCount(0)");
        });
        gardeners("promise 21: pendingCount", HedgeMessages::pendingCount);
        CHECKS.test("promise 22: the first and the last letter", () -> {
            HedgeMessages hedge = queue();
            CHECKS.same((int) 'a', hedge.pendingLetter(0, 0, 0), "pendingLetter(0, 0, 0)");
            CHECKS.same((int) 'l', hedge.pendingLetter(0, 0, 11), "pendingLetter(0, 0, 11)");
            CHECKS.same((int) 'z', hedge.pendingLetter(0, 1, 0), "pendingLetter(0, 1, 0)");
        });
        CHECKS.test("promise 22: no letter behind the last one", () -> {
            CHECKS.same(HedgeMessages.NONE, queue().pendingLetter(0, 0, 12), "pendingLetter(0, 0, 12)");
            CHECKS.same(HedgeMessages.NONE, queue().pendingLetter(0, 1, 1), "pendingLetter(0, 1, 1)");
            CHECKS.same(HedgeMessages.NONE, queue().pendingLetter(0, 0, Integer.MAX_VALUE), "pendingLetter(0, 0, MAX)");
        });
        CHECKS.test("promise 22: no letter before the first one", () -> {
            CHECKS.same(HedgeMessages.NONE, queue().pendingLetter(0, 1, -1), "pendingLetter(0, 1, -1)");
            CHECKS.same(HedgeMessages.NONE, queue().pendingLetter(0, 0, Integer.MIN_VALUE), "pendingLetter(0, 0, MIN)");
        });
        CHECKS.test("promise 22: no message behind the last one", () -> {
            CHECKS.same(HedgeMessages.NONE, queue().pendingLetter(0, 2, 0), "pendingLetter(0, 2, 0)");
            CHECKS.same(HedgeMessages.NONE, queue().pendingLetter(1, 0, 0), "pendingLetter(1, 0, 0)");
            CHECKS.same(HedgeMessages.NONE, queue().pendingLetter(0, Integer.MAX_VALUE, 0), "pendingLetter(0, MAX, 0)");
        });
        CHECKS.test("promise 22: no message before the first one", () -> {
            CHECKS.same(HedgeMessages.NONE, queue().pendingLetter(0, -1, 0), "pendingLetter(0, -1, 0)");
            CHECKS.same(HedgeMessages.NONE, queue().pendingLetter(0, -1, 12), "pendingLetter(0, -1, 12)");
            CHECKS.same(HedgeMessages.NONE, queue().pendingLetter(0, Integer.MIN_VALUE, 0), "pendingLetter(0, MIN, 0)");
        });
        CHECKS.test("promise 22: the eighth of 8 messages, and no ninth", () -> {
            HedgeMessages hedge = Hedges.of("hedge 4 1 0 9 30 1;" + "message 0 ab;".repeat(7) + "message 0 yz;");
            CHECKS.same((int) 'z', hedge.pendingLetter(0, 7, 1), "pendingLetter(0, 7, 1)");
            CHECKS.same(HedgeMessages.NONE, hedge.pendingLetter(0, 8, 0), "pendingLetter(0, 8, 0)");
        });
        CHECKS.test("promise 22: a message that left the queue", () -> {
            HedgeMessages hedge = queue();
            hedge.cancelMessage(0, 0);
            CHECKS.same((int) 'z', hedge.pendingLetter(0, 0, 0), "pendingLetter(0, 0, 0)");
            CHECKS.same(HedgeMessages.NONE, hedge.pendingLetter(0, 0, 1), "pendingLetter(0, 0, 1)");
            CHECKS.same(HedgeMessages.NONE, hedge.pendingLetter(0, 1, 0), "pendingLetter(0, 1, 0)");
        });
        CHECKS.test("promise 22: the gardener is looked at before the message", () ->
                CHECKS.badArgument("pendingLetter(2, -1, -1)", () -> queue().pendingLetter(2, -1, -1)));
        gardeners("promise 22: pendingLetter", (hedge, gardener) -> hedge.pendingLetter(gardener, 0, 0));
    }

    private static HedgeMessages queue() {
        return Hedges.of("hedge 16 1 0 9 30 1;message 0 abcdefghijkl;message 0 z;");
    }

    private static void messagesInProgress() {
        CHECKS.test("promise 23: 0 without a message in progress", () -> {
            CHECKS.same(0, queue().lettersWritten(0), "lettersWritten(0) of a pending message");
            CHECKS.same(0, queue().lettersWritten(1), "lettersWritten(1)");
        });
        CHECKS.test("promise 23: from the first letter to the last but one", () -> {
            HedgeMessages hedge = queue();
            hedge.endDays(1);
            CHECKS.same(1, hedge.lettersWritten(0), "lettersWritten(0) after a day");
            hedge.endDays(20);
            CHECKS.same(11, hedge.lettersWritten(0), "lettersWritten(0) after 21 days");
        });
        CHECKS.test("promise 23: 0 after the last letter", () -> {
            HedgeMessages hedge = queue();
            hedge.endDays(23);
            CHECKS.same(0, hedge.lettersWritten(0), "lettersWritten(0) after 23 days");
            CHECKS.same(1, hedge.postedCount(0), "postedCount(0)");
        });
        CHECKS.test("promise 23: 0 after a message failed", () -> {
            HedgeMessages hedge = Hedges.of("hedge 8 2 9 1 1 1;message 0 abc;");
            hedge.endDays(1);
            CHECKS.same(0, hedge.lettersWritten(0), "lettersWritten(0)");
        });
        gardeners("promise 23: lettersWritten", HedgeMessages::lettersWritten);
        CHECKS.test("promise 24: NONE without a message in progress", () -> {
            CHECKS.same(HedgeMessages.NONE, queue().startSlot(0), "startSlot(0) of a pending message");
            CHECKS.same(HedgeMessages.NONE, queue().startSlot(1), "startSlot(1)");
        });
        CHECKS.test("promise 24: the first slot", () -> {
            HedgeMessages hedge = queue();
            hedge.endDays(1);
            CHECKS.same(0, hedge.startSlot(0), "startSlot(0)");
            CHECKS.same(HedgeMessages.NONE, hedge.startSlot(1), "startSlot(1)");
        });
        CHECKS.test("promise 24: it stays while the message is written", () -> {
            HedgeMessages hedge = Hedges.of("hedge 8 1 0 9 30 1;twig 0 q 0 1;message 0 abcd;");
            hedge.endDays(5);
            CHECKS.same(3, hedge.lettersWritten(0), "lettersWritten(0)");
            CHECKS.same(2, hedge.startSlot(0), "startSlot(0)");
        });
        CHECKS.test("promise 24: NONE after the last letter", () -> {
            HedgeMessages hedge = Hedges.of("hedge 8 3 0 9 30 1;message 0 abc;");
            hedge.endDays(1);
            CHECKS.same(HedgeMessages.NONE, hedge.startSlot(0), "startSlot(0)");
        });
        CHECKS.test("promise 24: the last slots", () -> {
            HedgeMessages hedge = Hedges.of("hedge 40 1 0 9 30 1;twig 36 q 0 1;message 0 ab;nest 0 9;nest 35 9;"
                    + "twig 2 q 0 1;twig 5 q 0 1;twig 8 q 0 1;twig 11 q 0 1;twig 14 q 0 1;twig 17 q 0 1;"
                    + "twig 20 q 0 1;twig 23 q 0 1;twig 26 q 0 1;twig 29 q 0 1;twig 32 q 0 1;");
            hedge.endDays(1);
            CHECKS.same(38, hedge.startSlot(0), "startSlot(0)");
        });
        gardeners("promise 24: startSlot", HedgeMessages::startSlot);
    }

    private static void postedMessages() {
        CHECKS.test("promise 25: none", () -> {
            CHECKS.same(0, queue().postedCount(0), "postedCount(0) of pending messages");
            CHECKS.same(0, halfWritten().postedCount(0), "postedCount(0) of a message in progress");
        });
        CHECKS.test("promise 25: a message is posted with its last letter", () -> {
            HedgeMessages hedge = Hedges.of("hedge 8 2 0 9 30 1;message 0 abc;");
            hedge.endDays(2);
            CHECKS.same(0, hedge.postedCount(0), "postedCount(0) before the last letter");
            hedge.endDays(1);
            CHECKS.same(1, hedge.postedCount(0), "postedCount(0) after it");
        });
        CHECKS.test("promise 25: those of the other are not counted", () -> {
            HedgeMessages hedge = Hedges.of("hedge 8 2 0 9 30 1;message 1 a;message 1 b;");
            hedge.endDays(2);
            CHECKS.same(0, hedge.postedCount(0), "postedCount(0)");
            CHECKS.same(2, hedge.postedCount(1), "postedCount(1)");
        });
        CHECKS.test("promise 25: none after the delivery", () -> {
            HedgeMessages hedge = Hedges.of("hedge 8 2 0 9 30 1;message 0 a;message 0 b;");
            hedge.endDays(2);
            CHECKS.same(0, hedge.postedCount(0), "postedCount(0)");
        });
        CHECKS.test("promise 25: 8 in a day", () -> {
            HedgeMessages hedge = Hedges.of("hedge 16 12 0 9 30 1;" + "message 0 a;".repeat(8));
            hedge.endDays(1);
            CHECKS.same(8, hedge.postedCount(0), "postedCount(0)");
        });
        gardeners("promise 25: postedCount", HedgeMessages::postedCount);
    }

    // ---- Promises 26 to 28 ----

    /** The start slot of a message of 3 letters in a hedge of 8 slots with these statements. */
    private static void start(int due, String statements) {
        CHECKS.same(due, Hedges.of("hedge 8 1 0 9 30 1;message 0 abc;" + statements).nextStartSlot(0), statements);
    }

    private static void startSlots() {
        CHECKS.test("promise 26: the first slot of an empty hedge", () -> start(0, ""));
        CHECKS.test("promise 26: NONE if the queue is empty", () ->
                CHECKS.same(HedgeMessages.NONE, Hedges.of("hedge 8 1 0 9 30 1;message 1 a;").nextStartSlot(0),
                        "nextStartSlot(0)"));
        CHECKS.test("promise 26: the smallest slot of several", () -> start(1, "nest 0 1;nest 4 1;"));
        CHECKS.test("promise 26: the slot before the first one may not hold a twig", () -> {
            start(2, "twig 0 q 0 1;");
            start(5, "twig 3 q 0 1;");
        });
        CHECKS.test("promise 26: the slot before the first one may have a nest", () -> {
            start(1, "nest 0 1;");
            start(5, "nest 4 1;twig 1 q 0 1;");
        });
        CHECKS.test("promise 26: the slot behind the last one may not hold a twig", () -> {
            start(0, "twig 4 q 0 1;");
            start(HedgeMessages.NONE, "twig 3 q 0 1;nest 6 1;");
            start(HedgeMessages.NONE, "nest 3 1;twig 7 q 0 1;twig 0 q 0 1;");
        });
        CHECKS.test("promise 26: the slot behind the last one may have a nest", () -> start(0, "nest 3 1;"));
        CHECKS.test("promise 26: a slot with a twig above a nest counts as a twig", () -> start(5, "twig 3 q 0 1;nest 3 1;"));
        CHECKS.test("promise 26: none of its slots may have a nest", () -> start(4, "nest 3 1;nest 1 1;"));
        CHECKS.test("promise 26: none of its slots may hold a twig", () -> start(4, "twig 2 q 0 1;"));
        CHECKS.test("promise 26: up to the last slot", () -> start(5, "nest 2 1;nest 4 1;"));
        CHECKS.test("promise 26: not beyond the last slot", () -> start(HedgeMessages.NONE, "nest 2 1;nest 5 1;"));
        CHECKS.test("promise 26: a message as long as the hedge", () -> {
            CHECKS.same(0, Hedges.of("hedge 12 1 0 9 30 1;message 0 abcdefghijkl;").nextStartSlot(0), "12 of 12");
            CHECKS.same(0, Hedges.of("hedge 4 1 0 9 30 1;message 0 abcd;").nextStartSlot(0), "4 of 4");
        });
        CHECKS.test("promise 26: a message longer than the hedge", () -> {
            CHECKS.same(HedgeMessages.NONE, Hedges.of("hedge 11 1 0 9 30 1;message 0 abcdefghijkl;").nextStartSlot(0),
                    "12 of 11");
            CHECKS.same(HedgeMessages.NONE, Hedges.of("hedge 4 1 0 9 30 1;message 0 abcde;").nextStartSlot(0), "5 of 4");
        });
        CHECKS.test("promise 26: a message of one letter", () -> {
            String one = "message 0 a;";
            CHECKS.same(3, Hedges.of("hedge 4 1 0 9 30 1;twig 1 q 0 1;" + one).nextStartSlot(0), "behind a twig");
            CHECKS.same(HedgeMessages.NONE, Hedges.of("hedge 4 1 0 9 30 1;twig 1 q 0 1;twig 3 q 0 1;" + one)
                    .nextStartSlot(0), "between twigs");
            CHECKS.same(0, Hedges.of("hedge 4 1 0 9 30 1;nest 1 1;" + one).nextStartSlot(0), "before a nest");
            CHECKS.same(3, Hedges.of("hedge 4 1 0 9 30 1;nest 0 1;nest 1 1;nest 2 1;" + one).nextStartSlot(0),
                    "the last slot behind nests");
        });
        CHECKS.test("promise 26: the last start slot of 40", () -> CHECKS.same(28, Hedges.of("hedge 40 1 0 9 30 1;"
                + "nest 2 1;nest 14 1;nest 27 1;message 0 abcdefghijkl;twig 20 q 0 1;twig 7 q 0 1;")
                .nextStartSlot(0), "nextStartSlot(0)"));
        CHECKS.test("promise 26: a reserved slot without a twig is no free one", () -> {
            HedgeMessages hedge = Hedges.of("hedge 8 1 0 9 30 1;message 0 abc;message 0 de;message 1 fghi;message 1 j;");
            hedge.endDays(1);
            CHECKS.same("a==.....", Hedges.picture(hedge), "the hedge");
            CHECKS.same(4, hedge.nextStartSlot(0), "nextStartSlot(0) beside reserved slots");
            CHECKS.same(4, hedge.nextStartSlot(1), "nextStartSlot(1) beside reserved slots");
        });
        CHECKS.test("promise 26: the slot behind the last one may not be reserved", () -> {
            HedgeMessages hedge = Hedges.of("hedge 9 1 0 9 30 1;message 0 abc;nest 0 2;nest 1 2;nest 2 2;message 1 de;");
            hedge.endDays(1);
            CHECKS.same("***a==...", Hedges.picture(hedge), "the hedge");
            hedge.endDays(1);
            CHECKS.same("...a==.D=", Hedges.picture(hedge), "the hedge without nests");
            Hedges.queue(hedge, 1, "fg");
            CHECKS.same(0, hedge.nextStartSlot(1), "nextStartSlot(1) of 2 letters");
            hedge.cancelMessage(1, 0);
            Hedges.queue(hedge, 1, "fgh");
            CHECKS.same(HedgeMessages.NONE, hedge.nextStartSlot(1), "nextStartSlot(1) of 3 letters");
        });
        CHECKS.test("promise 26: a slot that is no longer reserved may be behind the last one or one of its own", () -> {
            String text = "hedge 9 3 1 9 30 1;nest 0 1;nest 1 1;nest 2 1;message 0 abc;message 1 x;";
            HedgeMessages delivered = Hedges.of(text);
            delivered.endDays(1);
            CHECKS.same("...abc...", Hedges.picture(delivered), "the hedge with a posted message");
            delivered.cancelMessage(1, 0);
            delivered.endDays(1);
            startsAtFirst(delivered, "after the delivery");
            HedgeMessages failed = Hedges.of(text.replace("9 30", "1 1"));
            failed.endDays(1);
            CHECKS.same(1, failed.messagesFailed(0), "messagesFailed(0)");
            failed.cancelMessage(1, 0);
            startsAtFirst(failed, "after the failure");
        });
        CHECKS.test("promise 26: the first message of the queue, not a later one", () ->
                CHECKS.same(HedgeMessages.NONE, Hedges.of("hedge 4 1 0 9 30 1;message 0 abcde;message 0 f;")
                        .nextStartSlot(0), "nextStartSlot(0)"));
        CHECKS.test("promise 26: on the other's day, too", () ->
                CHECKS.same(0, Hedges.of("hedge 4 1 0 9 30 1;message 1 abc;").nextStartSlot(1), "nextStartSlot(1)"));
        gardeners("promise 26: nextStartSlot", HedgeMessages::nextStartSlot);
    }

    /** Words of 3 and of 9 letters of gardener 1, who has none before, would start in slot 0. */
    private static void startsAtFirst(HedgeMessages hedge, String when) {
        CHECKS.same(".........", Hedges.picture(hedge), "the hedge " + when);
        Hedges.queue(hedge, 1, "fgh");
        CHECKS.same(0, hedge.nextStartSlot(1), "nextStartSlot(1) of 3 letters " + when);
        hedge.cancelMessage(1, 0);
        Hedges.queue(hedge, 1, "fghijklmn");
        CHECKS.same(0, hedge.nextStartSlot(1), "nextStartSlot(1) of 9 letters " + when);
    }

    private static void run(int due, String statements) {
        CHECKS.same(due, Hedges.of("hedge 8 1 0 9 30 1;" + statements).longestFreeRun(), statements);
    }

    private static void freeRuns() {
        CHECKS.test("promise 27: no free slot", () -> {
            CHECKS.same(0, full().longestFreeRun(), "longestFreeRun()");
            CHECKS.same(0, Hedges.of("hedge 4 1 0 9 30 1;nest 0 1;nest 1 1;nest 2 1;nest 3 1;").longestFreeRun(),
                    "longestFreeRun() of nests");
        });
        CHECKS.test("promise 27: all 40 slots", () ->
                CHECKS.same(40, Hedges.of("hedge 40 1 0 9 30 1;").longestFreeRun(), "longestFreeRun()"));
        CHECKS.test("promise 27: one slot", () -> run(1, "twig 1 a 0 1;twig 2 a 0 1;twig 4 a 0 1;twig 6 a 0 1;nest 5 1;"));
        CHECKS.test("promise 27: at the start", () -> run(5, "twig 5 a 0 1;"));
        CHECKS.test("promise 27: at the end", () -> run(5, "twig 2 a 0 1;"));
        CHECKS.test("promise 27: in the middle", () -> run(4, "twig 1 a 0 1;nest 6 1;"));
        CHECKS.test("promise 27: the last slots of 40", () ->
                CHECKS.same(20, Hedges.of("hedge 40 1 0 9 30 1;twig 19 a 0 1;").longestFreeRun(), "longestFreeRun()"));
        CHECKS.test("promise 27: reserved slots are not free", () ->
                CHECKS.same(5, halfWritten().longestFreeRun(), "longestFreeRun()"));
        CHECKS.test("promise 27: a slot beside a twig is free", () -> run(3, "twig 0 a 0 1;twig 4 a 0 1;"));
    }

    private static void yards() {
        CHECKS.test("promise 28: the first and the last slot of a yard", () -> {
            HedgeMessages hedge = Hedges.of("hedge 12 1 0 9 30 4;twig 3 a 0 1;twig 4 b 0 1;twig 7 c 0 1;twig 8 d 0 1;");
            CHECKS.same("1 2 1", hedge.yardLetterCount(0) + " " + hedge.yardLetterCount(1) + " "
                    + hedge.yardLetterCount(2), "yards 0 to 2");
        });
        CHECKS.test("promise 28: no yard behind the last one", () -> {
            HedgeMessages hedge = Hedges.of("hedge 12 1 0 9 30 4;twig 11 a 0 1;");
            CHECKS.same(1, hedge.yardLetterCount(2), "yardLetterCount(2)");
            CHECKS.same(0, hedge.yardLetterCount(3), "yardLetterCount(3)");
            CHECKS.same(0, hedge.yardLetterCount(Integer.MAX_VALUE), "yardLetterCount(MAX)");
        });
        CHECKS.test("promise 28: no yard before the first one", () -> {
            HedgeMessages hedge = Hedges.of("hedge 12 1 0 9 30 4;twig 0 a 0 1;twig 1 b 0 1;");
            CHECKS.same(0, hedge.yardLetterCount(-1), "yardLetterCount(-1)");
            CHECKS.same(0, hedge.yardLetterCount(Integer.MIN_VALUE), "yardLetterCount(MIN)");
        });
        CHECKS.test("promise 28: a number that would wrap around", () -> {
            HedgeMessages hedge = Hedges.of("hedge 12 1 0 9 30 4;twig 0 a 0 1;");
            CHECKS.same(0, hedge.yardLetterCount(1 << 30), "yardLetterCount(1 << 30)");
            CHECKS.same(0, hedge.yardLetterCount(Integer.MIN_VALUE / 2), "yardLetterCount(MIN / 2)");
        });
        CHECKS.test("promise 28: a last yard that is not full", () -> {
            HedgeMessages hedge = Hedges.of("hedge 5 1 0 9 30 4;twig 4 a 0 1;twig 0 b 0 1;");
            CHECKS.same(1, hedge.yardLetterCount(1), "yardLetterCount(1)");
        });
        CHECKS.test("promise 28: yards of one slot", () -> {
            HedgeMessages hedge = Hedges.of("hedge 40 1 0 9 30 1;twig 39 a 0 1;");
            CHECKS.same(1, hedge.yardLetterCount(39), "yardLetterCount(39)");
            CHECKS.same(0, hedge.yardLetterCount(38), "yardLetterCount(38)");
            CHECKS.same(0, hedge.yardLetterCount(40), "yardLetterCount(40)");
        });
        CHECKS.test("promise 28: a yard of 40 slots", () -> {
            HedgeMessages hedge = Hedges.of("hedge 40 1 0 9 30 40;twig 39 a 0 1;twig 0 b 1 1;");
            CHECKS.same(2, hedge.yardLetterCount(0), "yardLetterCount(0)");
            CHECKS.same(0, hedge.yardLetterCount(1), "yardLetterCount(1)");
        });
        CHECKS.test("promise 28: twigs count, reserved slots and nests don't", () -> {
            HedgeMessages hedge = Hedges.of("hedge 8 1 0 9 30 8;message 0 abc;nest 7 9;");
            hedge.endDays(1);
            CHECKS.same(1, hedge.yardLetterCount(0), "yardLetterCount(0)");
        });
    }

    // ---- Promises 29 to 33 ----

    /** Day 4, one action; abc of gardener 0 has slots 0 to 2 with a and b written, nests are in 1, 2 and 9. */
    private static HedgeMessages reasons() {
        HedgeMessages hedge = Hedges.of("hedge 12 1 0 9 30 1;message 0 abc;twig 5 p 0 5;twig 7 q 1 5;twig 10 r 0 5;");
        hedge.endDays(4);
        hedge.addNest(1, 9);
        hedge.addNest(2, 9);
        hedge.addNest(9, 9);
        return hedge;
    }

    private static void plantReasons() {
        CHECKS.test("promise 29: ALLOWED in a free slot, beside twigs and nests, too", () -> {
            HedgeMessages hedge = reasons();
            CHECKS.same(HedgeMessages.ALLOWED, hedge.plantReason(3), "plantReason(3)");
            CHECKS.same(HedgeMessages.ALLOWED, hedge.plantReason(8), "plantReason(8)");
            CHECKS.same(HedgeMessages.ALLOWED, hedge.plantReason(11), "plantReason(11)");
        });
        CHECKS.test("promise 29: NO_ACTIONS_LEFT comes first", () -> {
            HedgeMessages hedge = reasons();
            hedge.plant(11, 'z');
            for (int slot = 0; slot < 12; slot++) {
                CHECKS.same(HedgeMessages.NO_ACTIONS_LEFT, hedge.plantReason(slot), "plantReason(" + slot + ")");
            }
        });
        CHECKS.test("promise 29: one action is enough", () -> {
            HedgeMessages hedge = reasons();
            CHECKS.same(1, hedge.actionsLeft(), "actionsLeft()");
            CHECKS.same(HedgeMessages.ALLOWED, hedge.plantReason(4), "plantReason(4)");
        });
        CHECKS.test("promise 29: SLOT_TAKEN comes before SLOT_RESERVED and NEST_IN_SLOT", () -> {
            CHECKS.same(HedgeMessages.SLOT_TAKEN, reasons().plantReason(0), "a letter of a message");
            CHECKS.same(HedgeMessages.SLOT_TAKEN, reasons().plantReason(1), "a letter of a message with a nest");
            CHECKS.same(HedgeMessages.SLOT_TAKEN, reasons().plantReason(5), "a twig by hand");
            CHECKS.same(HedgeMessages.SLOT_TAKEN, reasons().plantReason(7), "the other's twig");
        });
        CHECKS.test("promise 29: SLOT_RESERVED comes before NEST_IN_SLOT", () ->
                CHECKS.same(HedgeMessages.SLOT_RESERVED, reasons().plantReason(2), "plantReason(2)"));
        CHECKS.test("promise 29: NEST_IN_SLOT comes last", () ->
                CHECKS.same(HedgeMessages.NEST_IN_SLOT, reasons().plantReason(9), "plantReason(9)"));
        CHECKS.test("promise 29: NEST_IN_SLOT on the last day of the nest, ALLOWED on the next", () -> {
            HedgeMessages hedge = Hedges.of("hedge 8 1 0 9 30 1;nest 7 1;");
            CHECKS.same(HedgeMessages.NEST_IN_SLOT, hedge.plantReason(7), "plantReason(7)");
            hedge.endDays(1);
            CHECKS.same(HedgeMessages.ALLOWED, hedge.plantReason(7), "plantReason(7) a day later");
        });
        slots("promise 29: plantReason", HedgeMessages::plantReason);
    }

    private static void removeReasons() {
        CHECKS.test("promise 30: ALLOWED for an own twig by hand", () ->
                CHECKS.same(HedgeMessages.ALLOWED, reasons().removeReason(5), "removeReason(5)"));
        CHECKS.test("promise 30: NO_ACTIONS_LEFT comes first", () -> {
            HedgeMessages hedge = reasons();
            hedge.plant(11, 'z');
            for (int slot = 0; slot < 12; slot++) {
                CHECKS.same(HedgeMessages.NO_ACTIONS_LEFT, hedge.removeReason(slot), "removeReason(" + slot + ")");
            }
        });
        CHECKS.test("promise 30: SLOT_EMPTY comes before all that a twig needs", () -> {
            CHECKS.same(HedgeMessages.SLOT_EMPTY, reasons().removeReason(2), "a reserved slot with a nest");
            CHECKS.same(HedgeMessages.SLOT_EMPTY, reasons().removeReason(9), "a nest");
            CHECKS.same(HedgeMessages.SLOT_EMPTY, reasons().removeReason(4), "nothing");
        });
        CHECKS.test("promise 30: NOT_OWNER comes before PART_OF_MESSAGE and PROTECTED", () -> {
            HedgeMessages hedge = reasons();
            CHECKS.same(HedgeMessages.NOT_OWNER, hedge.removeReason(7), "the other's twig");
            hedge.addNest(7, 9);
            CHECKS.same(HedgeMessages.NOT_OWNER, hedge.removeReason(7), "the other's twig in a nest");
            hedge.endDays(1);
            CHECKS.same(HedgeMessages.NOT_OWNER, hedge.removeReason(0), "the other's message beside a nest");
        });
        CHECKS.test("promise 30: PART_OF_MESSAGE comes before PROTECTED", () -> {
            CHECKS.same(HedgeMessages.PART_OF_MESSAGE, reasons().removeReason(0), "beside a nest");
            CHECKS.same(HedgeMessages.PART_OF_MESSAGE, reasons().removeReason(1), "in a nest");
        });
        CHECKS.test("promise 30: NOT_OWNER of a posted message, which is there on the other's day alone", () -> {
            HedgeMessages hedge = Hedges.of("hedge 8 1 0 9 30 1;message 0 a;");
            hedge.endDays(1);
            CHECKS.same(HedgeMessages.NOT_OWNER, hedge.removeReason(0), "on the day after it was posted");
            hedge.endDays(1);
            CHECKS.same(HedgeMessages.SLOT_EMPTY, hedge.removeReason(0), "on the sender's next day");
        });
        CHECKS.test("promise 30: PROTECTED beside a nest on either side and in it", () -> {
            HedgeMessages hedge = Hedges.of("hedge 8 1 0 9 30 1;twig 1 a 0 1;twig 2 b 0 1;twig 3 c 0 1;nest 2 1;"
                    + "twig 0 d 0 1;twig 4 e 0 1;");
            CHECKS.same("08880", signs(hedge, slot -> '0' + hedge.removeReason(slot)).substring(0, 5), "removeReason");
        });
        CHECKS.test("promise 30: gardener 1 owns what gardener 1 planted", () -> {
            HedgeMessages hedge = Hedges.of("hedge 8 2 0 9 30 1;twig 0 a 0 1;");
            hedge.endDays(1);
            hedge.plant(5, 'b');
            CHECKS.same(HedgeMessages.ALLOWED, hedge.removeReason(5), "removeReason(5)");
            CHECKS.same(HedgeMessages.NOT_OWNER, hedge.removeReason(0), "removeReason(0)");
        });
        slots("promise 30: removeReason", HedgeMessages::removeReason);
    }

    private static void trimReasons() {
        CHECKS.test("promise 31: ALLOWED for an own twig, even if it is 1 cm long", () -> {
            HedgeMessages hedge = Hedges.of("hedge 8 1 0 9 30 1;twig 0 a 0 1;twig 2 b 0 99;");
            CHECKS.same(HedgeMessages.ALLOWED, hedge.trimReason(0), "trimReason(0)");
            CHECKS.same(HedgeMessages.ALLOWED, hedge.trimReason(2), "trimReason(2)");
        });
        CHECKS.test("promise 31: a twig of a message may be trimmed", () -> {
            HedgeMessages hedge = Hedges.of("hedge 8 1 3 9 30 1;message 0 ab;");
            hedge.endDays(2);
            CHECKS.same(HedgeMessages.ALLOWED, hedge.trimReason(0), "trimReason(0)");
        });
        CHECKS.test("promise 31: NO_ACTIONS_LEFT comes first", () -> {
            HedgeMessages hedge = reasons();
            hedge.plant(11, 'z');
            for (int slot = 0; slot < 12; slot++) {
                CHECKS.same(HedgeMessages.NO_ACTIONS_LEFT, hedge.trimReason(slot), "trimReason(" + slot + ")");
            }
        });
        CHECKS.test("promise 31: SLOT_EMPTY comes before NOT_OWNER and PROTECTED", () -> {
            CHECKS.same(HedgeMessages.SLOT_EMPTY, reasons().trimReason(2), "a reserved slot with a nest");
            CHECKS.same(HedgeMessages.SLOT_EMPTY, reasons().trimReason(9), "a nest");
            CHECKS.same(HedgeMessages.SLOT_EMPTY, reasons().trimReason(4), "nothing");
        });
        CHECKS.test("promise 31: NOT_OWNER comes before PROTECTED", () -> {
            HedgeMessages hedge = reasons();
            hedge.addNest(7, 9);
            CHECKS.same(HedgeMessages.NOT_OWNER, hedge.trimReason(7), "the other's twig in a nest");
            hedge.endDays(1);
            CHECKS.same(HedgeMessages.NOT_OWNER, hedge.trimReason(0), "the other's message beside a nest");
        });
        CHECKS.test("promise 31: PROTECTED beside a nest on either side and in it", () -> {
            HedgeMessages hedge = Hedges.of("hedge 8 1 0 9 30 1;twig 1 a 0 1;twig 2 b 0 1;twig 3 c 0 1;nest 2 1;"
                    + "twig 0 d 0 1;twig 4 e 0 1;");
            CHECKS.same("08880", signs(hedge, slot -> '0' + hedge.trimReason(slot)).substring(0, 5), "trimReason");
            CHECKS.same(HedgeMessages.PROTECTED, reasons().trimReason(0), "a message's twig beside a nest");
        });
        slots("promise 31: trimReason", HedgeMessages::trimReason);
    }

    private static void writeReasons() {
        CHECKS.test("promise 32: ALLOWED if a message can be started", () ->
                CHECKS.same(HedgeMessages.ALLOWED, halfQueued().writeReason(0), "writeReason(0)"));
        CHECKS.test("promise 32: NOT_ACTIVE comes first", () -> {
            HedgeMessages hedge = Hedges.of("hedge 4 1 0 9 30 1;message 1 abcd;");
            CHECKS.same(HedgeMessages.NOT_ACTIVE, hedge.writeReason(1), "with actions");
            hedge.plant(0, 'a');
            CHECKS.same(HedgeMessages.NOT_ACTIVE, hedge.writeReason(1), "without actions and without a start slot");
            CHECKS.same(HedgeMessages.NOT_ACTIVE, Hedges.of("hedge 4 1 0 9 30 1;").writeReason(1), "without a message");
        });
        CHECKS.test("promise 32: NO_ACTIONS_LEFT comes before NOTHING_TO_WRITE and NO_START_SLOT", () -> {
            HedgeMessages hedge = Hedges.of("hedge 4 1 0 9 30 1;");
            hedge.plant(0, 'a');
            CHECKS.same(HedgeMessages.NO_ACTIONS_LEFT, hedge.writeReason(0), "without a message");
            Hedges.queue(hedge, 0, "abcd");
            CHECKS.same(HedgeMessages.NO_ACTIONS_LEFT, hedge.writeReason(0), "without a start slot");
        });
        CHECKS.test("promise 32: one action is enough", () -> {
            HedgeMessages hedge = Hedges.of("hedge 8 2 0 9 30 1;message 0 ab;");
            hedge.plant(7, 'a');
            CHECKS.same(1, hedge.actionsLeft(), "actionsLeft()");
            CHECKS.same(HedgeMessages.ALLOWED, hedge.writeReason(0), "writeReason(0)");
        });
        CHECKS.test("promise 32: NOTHING_TO_WRITE without a message", () -> {
            CHECKS.same(HedgeMessages.NOTHING_TO_WRITE, Hedges.of("hedge 4 1 0 9 30 1;").writeReason(0), "nothing at all");
            CHECKS.same(HedgeMessages.NOTHING_TO_WRITE, Hedges.of("hedge 4 1 0 9 30 1;message 1 a;").writeReason(0),
                    "a message of the other");
            CHECKS.same(HedgeMessages.NOTHING_TO_WRITE, full().writeReason(0), "a full hedge");
        });
        CHECKS.test("promise 32: NOTHING_TO_WRITE after the last message was delivered", () -> {
            HedgeMessages hedge = Hedges.of("hedge 8 1 0 9 30 1;message 1 ab;");
            hedge.endDays(5);
            CHECKS.same(HedgeMessages.NOTHING_TO_WRITE, hedge.writeReason(1), "writeReason(1)");
        });
        CHECKS.test("promise 32: NO_START_SLOT comes last", () -> CHECKS.same(HedgeMessages.NO_START_SLOT,
                Hedges.of("hedge 4 1 0 9 30 1;message 0 abc;twig 1 q 0 1;").writeReason(0), "writeReason(0)"));
        CHECKS.test("promise 32: a message in progress needs neither a queue nor a start slot", () -> {
            HedgeMessages hedge = Hedges.of("hedge 4 1 0 9 30 1;message 0 abcd;");
            hedge.endDays(2);
            CHECKS.same(HedgeMessages.ALLOWED, hedge.writeReason(0), "with an empty queue");
            Hedges.queue(hedge, 0, "xyz");
            CHECKS.same(HedgeMessages.ALLOWED, hedge.writeReason(0), "with a queue that has no start slot");
        });
        CHECKS.test("promise 32: step 1 is not taken into account", () -> {
            HedgeMessages hedge = Hedges.of("hedge 4 4 0 9 30 1;message 0 abcd;message 1 e;");
            hedge.endDays(1);
            CHECKS.same(HedgeMessages.NO_START_SLOT, hedge.writeReason(1), "writeReason(1)");
            hedge.endDays(1);
            CHECKS.same("E...", Hedges.picture(hedge), "what is written in spite of it");
        });
        gardeners("promise 32: writeReason", HedgeMessages::writeReason);
    }

    private static HedgeMessages halfQueued() {
        return Hedges.of("hedge 4 1 0 9 30 1;message 0 abcd;");
    }

    private static void keepReasons() {
        CHECKS.test("promise 33: SLOT_EMPTY comes first", () -> {
            HedgeMessages hedge = Hedges.of("hedge 4 1 0 1 30 1;nest 3 1;");
            CHECKS.same(HedgeMessages.SLOT_EMPTY, hedge.keepReason(0), "keepReason(0)");
            CHECKS.same(HedgeMessages.SLOT_EMPTY, hedge.keepReason(3), "keepReason(3) of a nest");
        });
        CHECKS.test("promise 33: the legal length is SHORT_ENOUGH", () -> {
            CHECKS.same(HedgeMessages.SHORT_ENOUGH, keep(8), "8 of 9");
            CHECKS.same(HedgeMessages.SHORT_ENOUGH, keep(9), "9 of 9");
        });
        CHECKS.test("promise 33: one more than the legal length is not", () -> {
            CHECKS.same(HedgeMessages.ALLOWED, keep(10), "10 of 9");
            CHECKS.same(HedgeMessages.ALLOWED, keep(99), "99 of 9");
        });
        CHECKS.test("promise 33: a legal length of 1 and of 99", () -> {
            HedgeMessages one = Hedges.of("hedge 4 1 0 1 30 1;twig 0 a 0 1;twig 3 b 0 2;");
            CHECKS.same(HedgeMessages.SHORT_ENOUGH, one.keepReason(0), "1 of 1");
            CHECKS.same(HedgeMessages.ALLOWED, one.keepReason(3), "2 of 1");
            HedgeMessages most = Hedges.of("hedge 4 1 1 99 30 1;twig 0 a 0 99;");
            CHECKS.same(HedgeMessages.SHORT_ENOUGH, most.keepReason(0), "99 of 99");
            most.endDays(1);
            CHECKS.same(HedgeMessages.ALLOWED, most.keepReason(0), "100 of 99");
        });
        CHECKS.test("promise 33: SHORT_ENOUGH comes before PROTECTED", () -> {
            HedgeMessages hedge = Hedges.of("hedge 4 1 0 9 30 1;twig 0 a 0 9;nest 0 1;twig 1 b 0 10;");
            CHECKS.same(HedgeMessages.SHORT_ENOUGH, hedge.keepReason(0), "keepReason(0)");
            CHECKS.same(HedgeMessages.PROTECTED, hedge.keepReason(1), "keepReason(1)");
        });
        CHECKS.test("promise 33: PROTECTED in a nest and on either side, not two slots away", () -> {
            HedgeMessages hedge = Hedges.of("hedge 8 1 0 1 30 1;twig 1 a 0 2;twig 2 b 0 2;twig 3 c 0 2;nest 3 1;"
                    + "twig 4 d 0 2;twig 5 e 1 2;");
            CHECKS.same("508880", signs(hedge, slot -> '0' + hedge.keepReason(slot)).substring(0, 6), "keepReason");
        });
        CHECKS.test("promise 33: the days of the nest don't matter now", () -> {
            HedgeMessages hedge = Hedges.of("hedge 4 1 0 1 1 1;twig 0 a 0 2;nest 0 1;");
            CHECKS.same(HedgeMessages.PROTECTED, hedge.keepReason(0), "keepReason(0)");
            hedge.endDays(1);
            CHECKS.same(HedgeMessages.SLOT_EMPTY, hedge.keepReason(0), "keepReason(0) after the day");
        });
        slots("promise 33: keepReason", HedgeMessages::keepReason);
    }

    private static int keep(int length) {
        return Hedges.of("hedge 4 1 0 9 30 1;twig 3 a 1 " + length + ";").keepReason(3);
    }

    // ---- Promise 34 ----

    private static void inspections() {
        CHECKS.test("promise 34: a whole interval on the first day", () -> {
            for (int interval = 1; interval <= 30; interval++) {
                CHECKS.same(interval, Hedges.of("hedge 4 1 0 9 " + interval + " 1;").daysUntilInspection(),
                        "daysUntilInspection() of " + interval);
            }
        });
        CHECKS.test("promise 34: 1 on the day before an inspection", () -> {
            HedgeMessages hedge = Hedges.of("hedge 4 1 0 9 30 1;");
            hedge.endDays(29);
            CHECKS.same(1, hedge.daysUntilInspection(), "daysUntilInspection()");
        });
        CHECKS.test("promise 34: a whole interval on the day of an inspection", () -> {
            HedgeMessages hedge = Hedges.of("hedge 4 1 0 9 30 1;");
            hedge.endDays(30);
            CHECKS.same(30, hedge.daysUntilInspection(), "daysUntilInspection()");
            hedge.endDays(1);
            CHECKS.same(29, hedge.daysUntilInspection(), "daysUntilInspection() a day later");
        });
        CHECKS.test("promise 34: at least 1 with an inspection each day", () -> {
            HedgeMessages hedge = Hedges.of("hedge 4 1 0 9 1 1;");
            for (int day = 0; day < 3; day++) {
                CHECKS.same(1, hedge.daysUntilInspection(), "daysUntilInspection() on day " + day);
                hedge.endDays(1);
            }
        });
    }

    private static void looksChangeNothing() {
        CHECKS.test("promises 8 to 34: refused questions leave all as it was", () -> {
            Witness witness = new Witness(CHECKS, reasons());
            HedgeMessages hedge = witness.hedge;
            witness.refusesIndex("letterAt(-1)", () -> hedge.letterAt(-1));
            witness.refusesIndex("ownerAt(12)", () -> hedge.ownerAt(12));
            witness.refusesIndex("lengthAt(12)", () -> hedge.lengthAt(12));
            witness.refusesIndex("isReserved(12)", () -> hedge.isReserved(12));
            witness.refusesIndex("nestDays(12)", () -> hedge.nestDays(12));
            witness.refusesIndex("isProtected(12)", () -> hedge.isProtected(12));
            witness.refusesIndex("plantReason(12)", () -> hedge.plantReason(12));
            witness.refusesIndex("removeReason(12)", () -> hedge.removeReason(12));
            witness.refusesIndex("trimReason(12)", () -> hedge.trimReason(12));
            witness.refusesIndex("keepReason(12)", () -> hedge.keepReason(12));
            witness.refusesArgument("pendingCount(2)", () -> hedge.pendingCount(2));
            witness.refusesArgument("pendingLetter(2, 0, 0)", () -> hedge.pendingLetter(2, 0, 0));
            witness.refusesArgument("lettersWritten(2)", () -> hedge.lettersWritten(2));
            witness.refusesArgument("startSlot(2)", () -> hedge.startSlot(2));
            witness.refusesArgument("postedCount(2)", () -> hedge.postedCount(2));
            witness.refusesArgument("nextStartSlot(2)", () -> hedge.nextStartSlot(2));
            witness.refusesArgument("writeReason(2)", () -> hedge.writeReason(2));
            witness.close();
        });
        CHECKS.test("promises 8 to 34: questions are no operations", () -> {
            HedgeMessages hedge = reasons();
            String before = Hedges.state(hedge);
            hedge.longestFreeRun();
            hedge.nextStartSlot(0);
            hedge.writeReason(0);
            CHECKS.same(before, Hedges.state(hedge), "the hedge");
            CHECKS.same(3, hedge.undo(), "undo() of four operations");
        });
    }
}
