/** Promises 35 to 39: a test of its own for each sentence of the document that names a boundary case. */
public final class ForecastEdgesTest {
    private static final Checks CHECKS = new Checks();

    private ForecastEdgesTest() {
    }

    public static void main(String[] args) {
        untilPruned();
        untilOtherwiseRemoved();
        deliveredAfter();
        pendingAfter();
        bestNestSlot();
        bestNestSlotNone();
        leastWorkLimit();
        leastWorkLimitOfFailing();
        leastWorkLimitOfDropped();
        leastWorkLimitAmongOthers();
        nothingChanges();
        CHECKS.close();
    }

    // ---- Promise 35 ----

    private static void pruned(int due, int slot, String configuration) {
        CHECKS.same(due, Hedges.of(configuration).daysUntilPruned(slot), "daysUntilPruned(" + slot + ") of " + configuration);
    }

    private static void untilPruned() {
        CHECKS.test("promise 35: 0 if the slot holds no twig now", () -> {
            pruned(0, 0, "hedge 4 1 0 9 1 1;");
            pruned(0, 1, "hedge 4 1 0 9 1 1;nest 1 9;");
        });
        CHECKS.test("promise 35: 0 for a reserved slot without a twig", () -> {
            HedgeMessages hedge = Hedges.of("hedge 4 1 0 9 30 1;message 0 abc;");
            hedge.endDays(1);
            CHECKS.same(0, hedge.daysUntilPruned(1), "daysUntilPruned(1)");
        });
        CHECKS.test("promise 35: 1 if the end of this day removes it", () -> {
            pruned(1, 0, "hedge 4 1 0 9 1 1;twig 0 a 0 10;");
            pruned(1, 3, "hedge 4 1 1 9 1 1;twig 3 a 1 9;");
        });
        CHECKS.test("promise 35: a twig of the legal length stays", () -> {
            pruned(HedgeMessages.NONE, 0, "hedge 4 1 0 9 1 1;twig 0 a 0 9;");
            pruned(2, 0, "hedge 4 1 1 9 1 1;twig 0 a 0 8;");
        });
        CHECKS.test("promise 35: after 60 days", () -> pruned(60, 0, "hedge 4 1 1 60 1 1;twig 0 a 0 1;"));
        CHECKS.test("promise 35: NONE if it still holds a twig after 60 days", () -> {
            pruned(HedgeMessages.NONE, 0, "hedge 4 1 1 61 1 1;twig 0 a 0 1;");
            pruned(HedgeMessages.NONE, 0, "hedge 4 1 0 99 1 1;twig 0 a 0 99;");
        });
        CHECKS.test("promise 35: on the day of an inspection alone", () -> {
            pruned(30, 0, "hedge 4 1 0 9 30 1;twig 0 a 0 10;");
            pruned(3, 0, "hedge 4 1 9 9 3 1;twig 0 a 0 9;");
        });
        CHECKS.test("promise 35: a nest protects it to the last of its days and no further", () -> {
            pruned(30, 0, "hedge 4 1 0 9 1 1;twig 0 a 0 10;nest 1 30;");
            pruned(2, 3, "hedge 4 1 0 9 1 1;twig 3 a 0 10;nest 3 2;");
            pruned(1, 3, "hedge 4 1 0 9 1 1;twig 3 a 0 10;nest 2 1;");
        });
        CHECKS.test("promise 35: the days count from now", () -> {
            HedgeMessages hedge = Hedges.of("hedge 4 1 0 9 30 1;twig 0 a 0 10;");
            hedge.endDays(29);
            CHECKS.same(1, hedge.daysUntilPruned(0), "daysUntilPruned(0) on day 29");
            hedge.endDays(1);
            CHECKS.same(0, hedge.daysUntilPruned(0), "daysUntilPruned(0) on day 30");
        });
        CHECKS.test("promise 35: the first and the last slot of 40", () -> {
            pruned(1, 0, "hedge 40 1 0 9 1 1;twig 0 a 0 10;");
            pruned(1, 39, "hedge 40 1 0 9 1 1;twig 39 a 0 10;");
        });
        CHECKS.test("promise 35: no slot below the first one and above the last one", () -> {
            CHECKS.slotOnly("daysUntilPruned", 4, slot -> Hedges.of("hedge 4 1 0 9 1 1;").daysUntilPruned(slot));
            CHECKS.slotOnly("daysUntilPruned", 40, slot -> Hedges.of("hedge 40 1 0 9 1 1;").daysUntilPruned(slot));
        });
    }

    private static void untilOtherwiseRemoved() {
        CHECKS.test("promise 35: the delivery removes it, too", () -> {
            HedgeMessages hedge = Hedges.of("hedge 4 2 0 9 30 1;message 0 ab;");
            hedge.endDays(1);
            CHECKS.same(1, hedge.daysUntilPruned(0), "daysUntilPruned(0)");
            CHECKS.same(1, hedge.daysUntilPruned(1), "daysUntilPruned(1)");
        });
        CHECKS.test("promise 35: its message's failure removes it, too", () -> {
            HedgeMessages hedge = Hedges.of("hedge 8 2 1 3 3 1;message 0 abcd;");
            hedge.endDays(2);
            hedge.trim(1, 2);
            CHECKS.same("ab==....", Hedges.picture(hedge), "the hedge, a 3 cm and b 1 cm long");
            CHECKS.same(1, hedge.daysUntilPruned(1), "daysUntilPruned(1)");
        });
        CHECKS.test("promise 35: a slot that gets a new twig on the same day still holds one", () -> {
            HedgeMessages hedge = Hedges.of("hedge 4 4 0 9 30 1;message 0 ab;message 1 x;");
            hedge.endDays(1);
            CHECKS.same(2, hedge.daysUntilPruned(0), "daysUntilPruned(0)");
            CHECKS.same(1, hedge.daysUntilPruned(1), "daysUntilPruned(1)");
        });
        CHECKS.test("promise 35: the smallest number of days, even if a twig comes back", () -> {
            HedgeMessages hedge = Hedges.of("hedge 4 4 0 9 30 1;message 0 a;");
            hedge.endDays(1);
            Hedges.queue(hedge, 0, "b");
            CHECKS.same(1, hedge.daysUntilPruned(0), "daysUntilPruned(0)");
            hedge.endDays(2);
            CHECKS.same("b...", Hedges.picture(hedge), "the hedge two days later");
        });
    }

    // ---- Promises 36 and 37 ----

    private static final String TWO = "hedge 16 1 0 9 30 1;message 0 a;message 0 bc;message 1 d;";

    private static void deliveredAfter() {
        CHECKS.test("promise 36: 0 after no day", () -> {
            HedgeMessages hedge = Hedges.of(TWO);
            CHECKS.same(0, hedge.deliveredAfter(0, 0), "deliveredAfter(0, 0)");
            hedge.endDays(1);
            CHECKS.same(0, hedge.deliveredAfter(0, 0), "deliveredAfter(0, 0) with a posted message");
        });
        CHECKS.test("promise 36: not on the day on which it is posted, but on the next one", () -> {
            CHECKS.same(0, Hedges.of(TWO).deliveredAfter(0, 1), "deliveredAfter(0, 1)");
            CHECKS.same(1, Hedges.of(TWO).deliveredAfter(0, 2), "deliveredAfter(0, 2)");
        });
        CHECKS.test("promise 36: 60 days", () -> {
            CHECKS.same(2, Hedges.of(TWO).deliveredAfter(0, 60), "deliveredAfter(0, 60)");
            CHECKS.same(1, Hedges.of(TWO).deliveredAfter(1, 60), "deliveredAfter(1, 60)");
        });
        CHECKS.test("promise 36: the sixtieth day counts", () -> {
            HedgeMessages hedge = Hedges.of("hedge 4 1 0 9 30 1;message 0 a;nest 0 28;nest 1 28;nest 2 28;nest 3 28;");
            hedge.endDays(1);
            CHECKS.same(0, hedge.deliveredAfter(0, 28), "deliveredAfter(0, 28)");
            CHECKS.same(1, hedge.deliveredAfter(0, 29), "deliveredAfter(0, 29)");
            HedgeMessages late = Hedges.of("hedge 16 1 0 9 30 1;message 0 abcdefghijkl;message 0 abcdefghijkl;"
                    + "message 0 abcde;message 0 x;");
            CHECKS.same(3, late.deliveredAfter(0, 59), "deliveredAfter(0, 59) of 30 letters");
            CHECKS.same(4, late.deliveredAfter(0, 60), "deliveredAfter(0, 60) of 30 letters");
        });
        CHECKS.test("promise 36: no fewer than 0 days and no more than 60", () -> {
            for (int days : new int[] {-1, 61, Integer.MIN_VALUE, Integer.MAX_VALUE}) {
                CHECKS.badArgument("deliveredAfter(0, " + days + ")", () -> Hedges.of(TWO).deliveredAfter(0, days));
            }
        });
        CHECKS.test("promise 36: gardeners 0 and 1 alone", () ->
                CHECKS.gardenerOnly("deliveredAfter", gardener -> Hedges.of(TWO).deliveredAfter(gardener, 1)));
        CHECKS.test("promise 36: what was delivered before doesn't count", () -> {
            HedgeMessages hedge = Hedges.of(TWO);
            hedge.endDays(2);
            CHECKS.same(1, hedge.messagesDelivered(0), "messagesDelivered(0)");
            CHECKS.same(1, hedge.deliveredAfter(0, 60), "deliveredAfter(0, 60)");
        });
        CHECKS.test("promise 36: no action left today", () -> {
            HedgeMessages hedge = Hedges.of("hedge 8 1 0 9 30 1;message 0 a;");
            hedge.plant(7, 'q');
            CHECKS.same(0, hedge.deliveredAfter(0, 3), "deliveredAfter(0, 3)");
            CHECKS.same(1, hedge.deliveredAfter(0, 4), "deliveredAfter(0, 4)");
        });
        CHECKS.test("promise 36: a new work limit is valid from the next day on", () -> {
            HedgeMessages hedge = Hedges.of("hedge 8 1 0 9 30 1;message 0 abc;");
            hedge.setWorkLimit(12);
            CHECKS.same(0, hedge.deliveredAfter(0, 3), "deliveredAfter(0, 3)");
            CHECKS.same(1, hedge.deliveredAfter(0, 4), "deliveredAfter(0, 4)");
        });
    }

    private static void pendingAfter() {
        CHECKS.test("promise 37: the queue itself after no day", () -> {
            CHECKS.same(2, Hedges.of(TWO).pendingAfter(0, 0), "pendingAfter(0, 0)");
            CHECKS.same(8, Hedges.of("hedge 4 1 0 9 30 1;" + "message 1 a;".repeat(8)).pendingAfter(1, 0),
                    "pendingAfter(1, 0) of a full queue");
        });
        CHECKS.test("promise 37: a message leaves on the day on which it is started", () -> {
            CHECKS.same(1, Hedges.of(TWO).pendingAfter(0, 1), "pendingAfter(0, 1)");
            CHECKS.same(1, Hedges.of(TWO).pendingAfter(1, 1), "pendingAfter(1, 1)");
            CHECKS.same(0, Hedges.of(TWO).pendingAfter(1, 2), "pendingAfter(1, 2)");
        });
        CHECKS.test("promise 37: 60 days", () -> {
            CHECKS.same(0, Hedges.of(TWO).pendingAfter(0, 60), "pendingAfter(0, 60)");
            CHECKS.same(1, Hedges.of("hedge 4 1 0 9 30 1;message 0 abcde;").pendingAfter(0, 60),
                    "pendingAfter(0, 60) of a word that never fits");
        });
        CHECKS.test("promise 37: no fewer than 0 days and no more than 60", () -> {
            for (int days : new int[] {-1, 61, Integer.MIN_VALUE, Integer.MAX_VALUE}) {
                CHECKS.badArgument("pendingAfter(0, " + days + ")", () -> Hedges.of(TWO).pendingAfter(0, days));
            }
        });
        CHECKS.test("promise 37: gardeners 0 and 1 alone", () ->
                CHECKS.gardenerOnly("pendingAfter", gardener -> Hedges.of(TWO).pendingAfter(gardener, 1)));
        CHECKS.test("promise 37: a failed message is pending again", () -> CHECKS.same(1,
                Hedges.of("hedge 8 1 1 1 1 1;message 0 abc;").pendingAfter(0, 1), "pendingAfter(0, 1)"));
        CHECKS.test("promise 37: a failed message that finds a full queue is not", () -> {
            HedgeMessages hedge = Hedges.of("hedge 8 1 1 1 2 1;message 0 abc;" + "message 0 z;".repeat(7));
            hedge.endDays(1);
            CHECKS.same(8, Hedges.queue(hedge, 0, "last"), "queueMessage");
            CHECKS.same(8, hedge.pendingAfter(0, 1), "pendingAfter(0, 1)");
        });
    }

    // ---- Promise 38 ----

    private static void best(int due, String statements) {
        CHECKS.same(due, Hedges.of("hedge 8 1 0 9 30 1;" + statements).bestNestSlot(), statements);
    }

    private static void bestNestSlot() {
        CHECKS.test("promise 38: the smallest slot if it would save none", () -> {
            best(0, "");
            best(0, "twig 4 a 0 9;");
            best(1, "nest 0 9;");
        });
        CHECKS.test("promise 38: the smallest of the slots that save most", () -> {
            best(3, "twig 4 a 0 10;");
            best(2, "twig 1 a 0 10;twig 3 b 0 10;twig 5 c 0 10;");
        });
        CHECKS.test("promise 38: the slot itself and both neighbours", () -> best(5, "twig 4 a 0 10;twig 5 b 0 10;"
                + "twig 6 c 0 10;twig 1 d 0 10;twig 2 e 0 10;"));
        CHECKS.test("promise 38: no further than the neighbours", () -> best(1, "twig 0 a 0 10;twig 2 b 0 10;"
                + "twig 4 c 0 10;twig 7 d 0 10;"));
        CHECKS.test("promise 38: the first slot", () -> {
            best(0, "twig 0 a 0 10;");
            best(0, "twig 1 a 0 10;");
        });
        CHECKS.test("promise 38: the last but one slot saves a twig in the last one", () ->
                best(6, "twig 7 a 0 10;"));
        CHECKS.test("promise 38: the last twigs of 40", () -> CHECKS.same(38,
                Hedges.of("hedge 40 1 0 9 30 1;twig 39 a 0 10;twig 38 b 0 10;twig 1 c 0 10;").bestNestSlot(),
                "bestNestSlot()"));
        CHECKS.test("promise 38: a twig of the legal length needs no saving", () ->
                best(4, "twig 1 a 0 9;twig 2 b 0 9;twig 5 c 0 10;"));
        CHECKS.test("promise 38: a protected twig needs no saving", () ->
                best(5, "twig 1 a 0 10;twig 2 b 0 10;nest 2 9;twig 6 c 0 10;"));
        CHECKS.test("promise 38: twigs of both gardeners and of messages", () -> {
            HedgeMessages hedge = Hedges.of("hedge 12 2 9 9 30 1;message 0 abc;twig 8 q 1 1;");
            hedge.endDays(1);
            CHECKS.same(0, hedge.bestNestSlot(), "bestNestSlot()");
        });
        CHECKS.test("promise 38: a letter that would go only because its message fails is not one that is pruned", () -> {
            HedgeMessages hedge = Hedges.of("hedge 8 2 2 3 30 1;message 0 abcd;twig 6 q 1 9;twig 7 r 1 9;");
            hedge.endDays(2);
            hedge.trim(1, 4);
            CHECKS.same("ab==..QR", Hedges.picture(hedge), "the hedge, a 5 cm and b 1 cm long");
            CHECKS.same(6, hedge.bestNestSlot(), "bestNestSlot()");
        });
        CHECKS.test("promise 38: the days of the nests don't matter", () ->
                best(4, "twig 1 a 0 10;nest 1 1;twig 5 b 0 10;"));
    }

    private static void bestNestSlotNone() {
        String five = "nest 0 9;nest 1 9;nest 2 9;nest 3 9;nest 4 9;";
        CHECKS.test("promise 38: 5 nests", () -> {
            best(5, five);
            best(6, five + "twig 7 a 0 10;");
        });
        CHECKS.test("promise 38: NONE with 6 nests", () -> best(HedgeMessages.NONE, five + "nest 5 9;twig 7 a 0 10;"));
        CHECKS.test("promise 38: NONE with a nest in every slot", () -> {
            CHECKS.same(HedgeMessages.NONE, Hedges.of("hedge 4 1 0 9 30 1;nest 0 9;nest 1 9;nest 2 9;nest 3 9;")
                    .bestNestSlot(), "4 nests in 4 slots");
            CHECKS.same(HedgeMessages.NONE, Hedges.of("hedge 5 1 0 9 30 1;" + five).bestNestSlot(), "5 nests in 5 slots");
        });
        CHECKS.test("promise 38: one slot without a nest", () -> {
            CHECKS.same(3, Hedges.of("hedge 4 1 0 9 30 1;nest 0 9;nest 1 9;nest 2 9;").bestNestSlot(), "the last one");
            CHECKS.same(0, Hedges.of("hedge 4 1 0 9 30 1;nest 3 9;nest 1 9;nest 2 9;").bestNestSlot(), "the first one");
        });
    }

    // ---- Promise 39 ----

    private static void least(int due, int gardener, int days, HedgeMessages hedge) {
        CHECKS.same(due, hedge.leastWorkLimit(gardener, days), "leastWorkLimit(" + gardener + ", " + days + ")");
    }

    private static void leastWorkLimit() {
        CHECKS.test("promise 39: 1 without a message", () -> {
            least(1, 0, 1, Hedges.of("hedge 4 1 0 9 30 1;"));
            least(1, 1, 60, Hedges.of("hedge 4 12 0 9 30 1;message 0 abcde;"));
        });
        CHECKS.test("promise 39: NONE if the days are too few for every limit", () -> {
            least(HedgeMessages.NONE, 0, 1, Hedges.of("hedge 4 12 0 9 30 1;message 0 a;"));
            least(HedgeMessages.NONE, 1, 2, Hedges.of("hedge 4 12 0 9 30 1;message 1 a;"));
        });
        CHECKS.test("promise 39: NONE for a message that never finds a start slot", () ->
                least(HedgeMessages.NONE, 0, 60, Hedges.of("hedge 4 12 0 9 30 1;message 0 abcde;")));
        CHECKS.test("promise 39: the limit is valid from the next day on", () -> {
            least(HedgeMessages.NONE, 0, 3, Hedges.of("hedge 8 1 0 9 30 1;message 0 ab;"));
            least(1, 0, 4, Hedges.of("hedge 8 1 0 9 30 1;message 0 ab;"));
            least(1, 0, 2, Hedges.of("hedge 8 3 0 9 30 1;message 0 abc;"));
        });
        CHECKS.test("promise 39: the greatest limit, 12", () -> {
            least(12, 1, 3, Hedges.of("hedge 12 1 0 9 30 1;message 1 abcdefghijkl;"));
            least(11, 1, 3, Hedges.of("hedge 12 1 0 9 30 1;message 1 abcdefghijk;"));
        });
        CHECKS.test("promise 39: NONE if 13 were needed", () ->
                least(HedgeMessages.NONE, 1, 3, Hedges.of("hedge 16 1 0 9 30 1;message 1 abcdefghijkl;message 1 a;")));
        CHECKS.test("promise 39: the least limit, 1", () ->
                least(1, 1, 25, Hedges.of("hedge 12 12 0 9 30 1;message 1 abcdefghijkl;")));
        CHECKS.test("promise 39: one day too few for the least limit", () ->
                least(2, 1, 24, Hedges.of("hedge 12 12 0 9 30 1;message 1 abcdefghijkl;")));
        CHECKS.test("promise 39: 1 day for a posted message", () -> {
            HedgeMessages hedge = Hedges.of("hedge 8 1 0 9 30 1;message 0 a;");
            hedge.endDays(1);
            least(1, 0, 1, hedge);
        });
        CHECKS.test("promise 39: a message in progress counts", () -> {
            HedgeMessages hedge = Hedges.of("hedge 8 1 0 9 30 1;message 0 abc;");
            hedge.endDays(1);
            CHECKS.same(0, hedge.pendingCount(0), "pendingCount(0)");
            least(HedgeMessages.NONE, 0, 2, hedge);
            least(2, 0, 3, hedge);
            least(1, 0, 5, hedge);
        });
        CHECKS.test("promise 39: 60 days", () -> {
            String text = "hedge 16 1 0 9 30 1;message 0 abcdefghijkl;message 0 abcdefghijkl;";
            least(1, 0, 60, Hedges.of(text + "message 0 abcdef;"));
            least(2, 0, 60, Hedges.of(text + "message 0 abcdefg;"));
        });
        CHECKS.test("promise 39: no fewer than 1 day and no more than 60", () -> {
            for (int days : new int[] {0, -1, 61, Integer.MIN_VALUE, Integer.MAX_VALUE}) {
                CHECKS.badArgument("leastWorkLimit(0, " + days + ")", () -> new HedgeMessages().leastWorkLimit(0, days));
            }
        });
        CHECKS.test("promise 39: gardeners 0 and 1 alone", () ->
                CHECKS.gardenerOnly("leastWorkLimit", gardener -> new HedgeMessages().leastWorkLimit(gardener, 1)));
        CHECKS.test("promise 39: the limit of now doesn't matter", () -> {
            HedgeMessages hedge = Hedges.of("hedge 12 1 0 9 30 1;message 1 abcdef;");
            hedge.setWorkLimit(12);
            least(6, 1, 3, hedge);
        });
        CHECKS.test("promise 39: the messages of the other don't matter", () ->
                least(1, 0, 2, Hedges.of("hedge 12 1 0 9 30 1;message 0 a;" + "message 1 abcdefghijkl;".repeat(8))));
    }

    private static void leastWorkLimitOfFailing() {
        CHECKS.test("promise 39: a limit with which the message fails again and again is none", () -> {
            String text = "hedge 8 1 1 1 2 1;message 0 ab;";
            least(HedgeMessages.NONE, 0, 3, Hedges.of(text));
            least(2, 0, 4, Hedges.of(text));
            least(2, 0, 60, Hedges.of(text));
        });
    }

    private static void leastWorkLimitOfDropped() {
        CHECKS.test("promise 39: a message that is dropped is none that the gardener has", () -> {
            HedgeMessages hedge = Hedges.of("hedge 8 1 1 1 2 1;message 0 abc;" + "message 0 z;".repeat(7));
            hedge.endDays(1);
            CHECKS.same(8, Hedges.queue(hedge, 0, "z"), "queueMessage");
            least(2, 0, 16, hedge);
            least(1, 0, 17, hedge);
            hedge.endDays(17);
            CHECKS.same(1, hedge.messagesDropped(0), "messagesDropped(0)");
            CHECKS.same(8, hedge.messagesDelivered(0), "messagesDelivered(0)");
            CHECKS.same(0, hedge.pendingCount(0) + hedge.postedCount(0), "what is left");
        });
    }

    /** A sign for each limit from 1 to 12: whether the gardener has no message after so many days with it. */
    private static String tried(String configuration, int gardener, int days) {
        StringBuilder signs = new StringBuilder();
        for (int limit = 1; limit <= 12; limit++) {
            HedgeMessages hedge = Hedges.of(configuration);
            hedge.setWorkLimit(limit);
            hedge.endDays(days);
            boolean none = hedge.pendingCount(gardener) == 0 && hedge.postedCount(gardener) == 0
                    && hedge.startSlot(gardener) == HedgeMessages.NONE;
            signs.append(none ? '+' : '-');
        }
        return signs.toString();
    }

    private static void leastWorkLimitAmongOthers() {
        CHECKS.test("promise 39: the least one, even if a greater one is not enough", () -> {
            // With 3 letters a day a second message is begun that an inspection finds too long.
            String text = "hedge 10 1 2 4 4 1;message 0 abc;message 1 ab;message 1 ab;";
            CHECKS.same("-+-+++++++++", tried(text, 1, 6), "what each limit does");
            least(2, 1, 6, Hedges.of(text));
            String other = "hedge 11 1 2 3 5 1;message 0 abcde;message 0 abcd;message 1 abcde;message 1 ab;";
            CHECKS.same("---+---+++++", tried(other, 0, 6), "what each limit does");
            least(4, 0, 6, Hedges.of(other));
        });
        CHECKS.test("promise 39: every limit as if it were set and the days ended", () -> {
            String text = "hedge 16 4 2 5 3 4;twig 2 q 0 3;nest 10 5;message 0 hello;message 1 yes;message 0 no;";
            for (int days = 1; days <= 60; days++) {
                for (int gardener = 0; gardener < 2; gardener++) {
                    int index = tried(text, gardener, days).indexOf('+');
                    least(index < 0 ? HedgeMessages.NONE : index + 1, gardener, days, Hedges.of(text));
                }
            }
        });
    }

    private static void nothingChanges() {
        CHECKS.test("promises 35 to 39: a refused forecast leaves all as it was", () -> {
            Witness witness = new Witness(CHECKS, busy());
            HedgeMessages hedge = witness.hedge;
            witness.refusesIndex("daysUntilPruned(16)", () -> hedge.daysUntilPruned(16));
            witness.refusesArgument("deliveredAfter(0, 61)", () -> hedge.deliveredAfter(0, 61));
            witness.refusesArgument("pendingAfter(2, 1)", () -> hedge.pendingAfter(2, 1));
            witness.refusesArgument("leastWorkLimit(0, 0)", () -> hedge.leastWorkLimit(0, 0));
            witness.close();
        });
        CHECKS.test("promises 35 to 39: a forecast leaves all as it was", () -> {
            Witness witness = new Witness(CHECKS, busy());
            HedgeMessages hedge = witness.hedge;
            hedge.daysUntilPruned(2);
            witness.isUnchanged("daysUntilPruned(2)");
            hedge.deliveredAfter(0, 60);
            witness.isUnchanged("deliveredAfter(0, 60)");
            hedge.pendingAfter(1, 60);
            witness.isUnchanged("pendingAfter(1, 60)");
            hedge.bestNestSlot();
            witness.isUnchanged("bestNestSlot()");
            hedge.leastWorkLimit(1, 60);
            witness.isUnchanged("leastWorkLimit(1, 60)");
            witness.close();
        });
        CHECKS.test("promises 35 to 39: what was foreseen comes true", () -> {
            HedgeMessages hedge = busy();
            CHECKS.same(2, hedge.daysUntilPruned(2), "daysUntilPruned(2)");
            int delivered = hedge.deliveredAfter(0, 9);
            int pending = hedge.pendingAfter(0, 9);
            int before = hedge.messagesDelivered(0);
            hedge.endDays(1);
            CHECKS.same((int) 'q', hedge.letterAt(2), "letterAt(2) a day later");
            hedge.endDays(1);
            CHECKS.same(HedgeMessages.NONE, hedge.letterAt(2), "letterAt(2) two days later");
            hedge.endDays(7);
            CHECKS.same(delivered, hedge.messagesDelivered(0) - before, "messagesDelivered(0)");
            CHECKS.same(pending, hedge.pendingCount(0), "pendingCount(0)");
        });
    }

    private static HedgeMessages busy() {
        HedgeMessages hedge = new HedgeMessages();
        hedge.endDays(1);
        return hedge;
    }
}
