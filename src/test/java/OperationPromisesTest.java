/** Promises 52 to 64: the operations, undo, save and restore, and the output. */
public final class OperationPromisesTest {
    private static final Checks CHECKS = new Checks();

    private OperationPromisesTest() {
    }

    public static void main(String[] args) {
        CHECKS.test("promise 52: plant", OperationPromisesTest::plant);
        CHECKS.test("promise 53: remove", OperationPromisesTest::remove);
        CHECKS.test("promise 54: trim", OperationPromisesTest::trim);
        CHECKS.test("promise 55: addNest", OperationPromisesTest::addNest);
        CHECKS.test("promise 56: queueMessage", OperationPromisesTest::queueMessage);
        CHECKS.test("promise 57: cancelMessage", OperationPromisesTest::cancelMessage);
        CHECKS.test("promise 58: setWorkLimit", OperationPromisesTest::setWorkLimit);
        CHECKS.test("promise 59: endDays", OperationPromisesTest::endDays);
        CHECKS.test("promise 59: the nest that came later", OperationPromisesTest::writingIntoNests);
        CHECKS.test("promise 60: undo of every operation", OperationPromisesTest::undoEach);
        CHECKS.test("promise 60: undo and restore of what is being written", OperationPromisesTest::undoOfWriting);
        CHECKS.test("promise 60: the 8 most recent operations", OperationPromisesTest::undoDepth);
        CHECKS.test("promise 60: what undo keeps", OperationPromisesTest::undoKeeps);
        CHECKS.test("promise 60: no operations", OperationPromisesTest::noOperations);
        CHECKS.test("promises 61 and 62: save and restore", OperationPromisesTest::saveAndRestore);
        CHECKS.test("promises 63 and 64: the output", OperationPromisesTest::output);
        CHECKS.close();
    }

    /** After calls that threw there is still nothing to undo and the hedge is as it was. */
    private static void untouched(String before, HedgeMessages hedge) {
        CHECKS.same(before, Hedges.state(hedge), "the hedge after calls that threw");
        CHECKS.badState("undo() after calls that threw", hedge::undo);
    }

    private static void plant() {
        HedgeMessages hedge = Hedges.of("hedge 12 2 2 9 30 1;twig 3 q 1 5;nest 6 4;");
        String before = Hedges.state(hedge);
        CHECKS.slotOnly("plant", 12, slot -> hedge.plant(slot, 'a'));
        CHECKS.badIndex("plant(12, 96): the slot is looked at first", () -> hedge.plant(12, 96));
        for (int letter : new int[] {96, 123, 'A', 0, -1, 97 + 256, Integer.MIN_VALUE, Integer.MAX_VALUE}) {
            CHECKS.badArgument("plant(3, " + letter + ")", () -> hedge.plant(3, letter));
        }
        CHECKS.badState("plant in a taken slot", () -> hedge.plant(3, 'a'));
        CHECKS.badState("plant in a nest", () -> hedge.plant(6, 'a'));
        untouched(before, hedge);
        CHECKS.same(2, hedge.plant(0, 'a'), "plant(0, a)");
        CHECKS.same(3, hedge.plant(11, 'z'), "plant(11, z)");
        CHECKS.same("a..Q..*....z", Hedges.picture(hedge), "the hedge");
        CHECKS.same(1, hedge.lengthAt(0), "lengthAt(0)");
        CHECKS.badState("plant without actions", () -> hedge.plant(5, 'a'));
        hedge.endDays(1);
        CHECKS.same(3, hedge.lengthAt(0), "lengthAt(0) a day later");
        hedge.plant(5, 'b');
        CHECKS.same(1, hedge.ownerAt(5), "ownerAt(5) of gardener 1's twig");
    }

    private static void remove() {
        HedgeMessages hedge = Hedges.of("hedge 12 2 0 9 30 1;twig 3 q 1 5;twig 5 r 0 5;nest 6 4;twig 9 s 0 2;"
                + "twig 11 t 0 1;twig 0 u 0 1;");
        String before = Hedges.state(hedge);
        CHECKS.slotOnly("remove", 12, hedge::remove);
        CHECKS.badState("remove of nothing", () -> hedge.remove(1));
        CHECKS.badState("remove of the other's twig", () -> hedge.remove(3));
        CHECKS.badState("remove beside a nest", () -> hedge.remove(5));
        untouched(before, hedge);
        CHECKS.same((int) 's', hedge.remove(9), "remove(9)");
        CHECKS.same((int) 't', hedge.remove(11), "remove(11)");
        CHECKS.same("u..Q.r*.....", Hedges.picture(hedge), "the hedge");
        CHECKS.same(0, hedge.actionsLeft(), "actionsLeft()");
        CHECKS.badState("remove without actions", () -> hedge.remove(0));
        HedgeMessages writer = Hedges.of("hedge 12 2 0 9 30 1;message 0 abc;");
        writer.endDays(2);
        CHECKS.badState("remove of a message's twig", () -> writer.remove(0));
        CHECKS.same("ab=.........", Hedges.picture(writer), "the message");
    }

    private static void trim() {
        HedgeMessages hedge = Hedges.of("hedge 12 3 0 9 30 1;twig 3 q 1 5;twig 5 r 0 5;nest 6 4;twig 9 s 0 99;"
                + "twig 11 t 0 1;message 0 ab;");
        String before = Hedges.state(hedge);
        CHECKS.slotOnly("trim", 12, slot -> hedge.trim(slot, 1));
        CHECKS.badIndex("trim(12, 0): the slot is looked at first", () -> hedge.trim(12, 0));
        for (int cm : new int[] {0, -1, 100, Integer.MIN_VALUE, Integer.MAX_VALUE}) {
            CHECKS.badArgument("trim(3, " + cm + ")", () -> hedge.trim(3, cm));
        }
        CHECKS.badState("trim of nothing", () -> hedge.trim(1, 1));
        CHECKS.badState("trim of the other's twig", () -> hedge.trim(3, 1));
        CHECKS.badState("trim beside a nest", () -> hedge.trim(5, 1));
        untouched(before, hedge);
        CHECKS.same(98, hedge.trim(9, 1), "trim(9, 1)");
        CHECKS.same(1, hedge.trim(9, 97), "trim(9, 97)");
        CHECKS.same(1, hedge.trim(11, 99), "trim(11, 99)");
        CHECKS.same(1, hedge.lengthAt(9), "lengthAt(9)");
        CHECKS.badState("trim without actions", () -> hedge.trim(9, 1));
        CHECKS.same((int) 's', hedge.letterAt(9), "letterAt(9)");
        HedgeMessages writer = Hedges.of("hedge 12 2 7 99 30 1;message 0 abc;");
        writer.endDays(2);
        CHECKS.same(12, writer.trim(0, 3), "trim of a message's twig of 15 cm");
    }

    private static void addNest() {
        HedgeMessages hedge = Hedges.of("hedge 12 1 0 9 30 1;twig 3 q 1 5;nest 6 4;message 0 abc;");
        String before = Hedges.state(hedge);
        CHECKS.slotOnly("addNest", 12, slot -> hedge.addNest(slot, 1));
        CHECKS.badIndex("addNest(12, 0): the slot is looked at first", () -> hedge.addNest(12, 0));
        for (int days : new int[] {0, -1, 31, Integer.MIN_VALUE, Integer.MAX_VALUE}) {
            CHECKS.badArgument("addNest(6, " + days + ")", () -> hedge.addNest(6, days));
        }
        CHECKS.badState("addNest in a nest", () -> hedge.addNest(6, 1));
        untouched(before, hedge);
        CHECKS.same(2, hedge.addNest(3, 30), "addNest(3, 30) above a twig");
        CHECKS.same(30, hedge.nestDays(3), "nestDays(3)");
        CHECKS.same(1, hedge.actionsLeft(), "actionsLeft()");
        hedge.endDays(1);
        CHECKS.same("...Q..*a==..", Hedges.picture(hedge), "the hedge");
        CHECKS.same(3, hedge.addNest(8, 1), "addNest in a reserved slot");
        CHECKS.same(4, hedge.addNest(7, 1), "addNest above a message's twig");
        CHECKS.same(5, hedge.addNest(0, 1), "addNest(0, 1)");
        CHECKS.same(6, hedge.addNest(11, 1), "addNest(11, 1)");
        CHECKS.badState("a seventh nest", () -> hedge.addNest(1, 1));
        hedge.endDays(1);
        CHECKS.same(3, hedge.addNest(1, 1), "addNest when four are gone");
    }

    private static void queueMessage() {
        HedgeMessages hedge = Hedges.of("hedge 12 1 0 9 30 1;message 1 x;");
        String before = Hedges.state(hedge);
        for (String word : new String[] {"", "abcdefghijklm", "ab cd", "ab ", " ab", "Ab", "a1", "ab;", "a`", "a{",
                "\u00e9", "\u0000"}) {
            Hedges.put(hedge, word);
            CHECKS.badArgument("queueMessage(0) of " + word, () -> hedge.queueMessage(0));
            CHECKS.same(word.length(), Hedges.bufferLength(hedge), "the length of the buffer with " + word);
            hedge.truncate(0);
        }
        Hedges.put(hedge, "ab");
        CHECKS.gardenerOnly("queueMessage", hedge::queueMessage);
        CHECKS.same(2, Hedges.bufferLength(hedge), "the length of the buffer after that");
        untouched(before, hedge);
        CHECKS.same(1, hedge.queueMessage(0), "queueMessage(0)");
        CHECKS.same(0, Hedges.bufferLength(hedge), "the length of the buffer after a good call");
        CHECKS.same(2, Hedges.queue(hedge, 0, "abcdefghijkl"), "queueMessage(0) of 12 letters");
        CHECKS.same(2, Hedges.queue(hedge, 1, "z"), "queueMessage(1) of a letter");
        CHECKS.same("ab abcdefghijkl", Hedges.pending(hedge, 0), "queue 0");
        CHECKS.same("x z", Hedges.pending(hedge, 1), "queue 1");
        CHECKS.same(1, hedge.actionsLeft(), "actionsLeft()");
        for (int message = 3; message <= 8; message++) {
            CHECKS.same(message, Hedges.queue(hedge, 0, "m"), "queueMessage(0)");
        }
        Hedges.put(hedge, "n1");
        CHECKS.badArgument("queueMessage of no word to a full queue", () -> hedge.queueMessage(0));
        hedge.truncate(1);
        CHECKS.badState("queueMessage to a full queue", () -> hedge.queueMessage(0));
        CHECKS.same(3, hedge.queueMessage(1), "queueMessage of the word that stayed");
        CHECKS.same("x z n", Hedges.pending(hedge, 1), "queue 1");
    }

    private static void cancelMessage() {
        HedgeMessages hedge = Hedges.of("hedge 12 1 0 9 30 1;message 0 abc;message 0 d;message 0 ef;message 1 x;");
        String before = Hedges.state(hedge);
        CHECKS.gardenerOnly("cancelMessage", gardener -> hedge.cancelMessage(gardener, 0));
        CHECKS.badArgument("cancelMessage(2, 9): the gardener is looked at first", () -> hedge.cancelMessage(2, 9));
        for (int message : new int[] {-1, 3, 8, Integer.MIN_VALUE, Integer.MAX_VALUE}) {
            CHECKS.badIndex("cancelMessage(0, " + message + ")", () -> hedge.cancelMessage(0, message));
        }
        CHECKS.badIndex("cancelMessage(1, 1)", () -> hedge.cancelMessage(1, 1));
        untouched(before, hedge);
        CHECKS.same(1, hedge.cancelMessage(0, 1), "cancelMessage(0, 1)");
        CHECKS.same("abc ef", Hedges.pending(hedge, 0), "queue 0");
        CHECKS.same(2, hedge.cancelMessage(0, 1), "cancelMessage(0, 1)");
        CHECKS.same(3, hedge.cancelMessage(0, 0), "cancelMessage(0, 0)");
        CHECKS.same("", Hedges.pending(hedge, 0), "queue 0");
        CHECKS.same(3, hedge.messagesDropped(0), "messagesDropped(0)");
        CHECKS.same("x", Hedges.pending(hedge, 1), "queue 1");
        CHECKS.same(1, hedge.actionsLeft(), "actionsLeft()");
        HedgeMessages full = Hedges.of("hedge 12 1 0 9 30 1;message 0 a;message 0 bb;message 0 c;message 0 dd;"
                + "message 0 e;message 0 ff;message 0 g;message 0 hh;");
        CHECKS.same(2, full.cancelMessage(0, 5), "cancelMessage(0, 5) of 8");
        CHECKS.same("a bb c dd e g hh", Hedges.pending(full, 0), "the other 7");
        CHECKS.same(2, full.cancelMessage(0, 6), "cancelMessage(0, 6) of 7");
        CHECKS.same(1, full.cancelMessage(0, 0), "cancelMessage(0, 0) of 6");
        CHECKS.same("bb c dd e g", Hedges.pending(full, 0), "the other 5");
        HedgeMessages writer = Hedges.of("hedge 12 1 0 9 30 1;message 0 abc;");
        writer.endDays(1);
        CHECKS.badIndex("cancelMessage of a message in progress", () -> writer.cancelMessage(0, 0));
    }

    private static void setWorkLimit() {
        HedgeMessages hedge = Hedges.of("hedge 20 3 0 9 30 1;message 0 abcdefghijkl;");
        String before = Hedges.state(hedge);
        for (int limit : new int[] {0, -1, 13, Integer.MIN_VALUE, Integer.MAX_VALUE}) {
            CHECKS.badArgument("setWorkLimit(" + limit + ")", () -> hedge.setWorkLimit(limit));
        }
        untouched(before, hedge);
        CHECKS.same(3, hedge.setWorkLimit(12), "setWorkLimit(12)");
        CHECKS.same(12, hedge.setWorkLimit(1), "setWorkLimit(1)");
        CHECKS.same(3, hedge.actionsLeft(), "actionsLeft()");
        hedge.endDays(1);
        CHECKS.same(3, hedge.lettersWritten(0), "lettersWritten(0) with the old limit");
        CHECKS.same(1, hedge.actionsLeft(), "actionsLeft() the day after");
        hedge.endDays(2);
        CHECKS.same(4, hedge.lettersWritten(0), "lettersWritten(0) with the new limit");
    }

    private static void endDays() {
        HedgeMessages hedge = Hedges.of("hedge 20 2 1 99 30 1;message 0 ab;message 0 c;message 1 d;nest 19 2;");
        String before = Hedges.state(hedge);
        for (int days : new int[] {0, -1, 61, Integer.MIN_VALUE, Integer.MAX_VALUE}) {
            CHECKS.badArgument("endDays(" + days + ")", () -> hedge.endDays(days));
        }
        untouched(before, hedge);
        CHECKS.same(3, hedge.endDays(60), "endDays(60)");
        CHECKS.same(60, hedge.day(), "day()");
        CHECKS.same(0, hedge.endDays(1), "endDays(1)");
        CHECKS.same(61, hedge.day(), "day()");
        hedge.undo();
        hedge.undo();
        CHECKS.same(before, Hedges.state(hedge), "the hedge after undo");
        hedge.plant(10, 'x');
        hedge.endDays(1);
        CHECKS.same("a=........x........*", Hedges.picture(hedge), "a day with one action left");
        hedge.endDays(2);
        CHECKS.same("ab.c......x.........", Hedges.picture(hedge), "a day on which a message is ended and one is begun");
        CHECKS.same(2, hedge.postedCount(0), "postedCount(0)");
        CHECKS.same(2, hedge.lengthAt(1), "lengthAt(1)");
        CHECKS.same(4, hedge.lengthAt(0), "lengthAt(0)");
    }

    private static void writingIntoNests() {
        HedgeMessages hedge = Hedges.of("hedge 8 1 0 9 30 1;message 0 abc;");
        hedge.endDays(1);
        hedge.addNest(1, 9);
        hedge.addNest(3, 9);
        CHECKS.same("a==*....", Hedges.picture(hedge), "the hedge with nests");
        hedge.endDays(4);
        CHECKS.same("abc*....", Hedges.picture(hedge), "the message in spite of a nest");
        CHECKS.same(1, hedge.postedCount(0), "postedCount(0)");
        // The queue waits for its first message even if a later one would fit.
        HedgeMessages waiting = Hedges.of("hedge 8 3 0 9 30 1;message 0 abcd;message 0 e;twig 4 q 0 1;");
        waiting.endDays(4);
        CHECKS.same("abcd e", Hedges.pending(waiting, 0), "queue 0");
        CHECKS.same("....q...", Hedges.picture(waiting), "the hedge without room");
    }

    private static void undoEach() {
        HedgeMessages hedge = Hedges.of("hedge 12 9 1 5 3 4;twig 3 q 0 4;twig 5 r 0 3;nest 9 3;message 0 abc;");
        String before = Hedges.state(hedge);
        Runnable[] operations = {
            () -> hedge.plant(0, 'a'), () -> hedge.remove(3), () -> hedge.trim(5, 2), () -> hedge.addNest(6, 4),
            () -> Hedges.queue(hedge, 1, "xyz"), () -> hedge.cancelMessage(0, 0), () -> hedge.setWorkLimit(2),
            () -> hedge.endDays(7), () -> Hedges.run(hedge, "plant 0 a;end 5;work 1;"),
        };
        for (int index = 0; index < operations.length; index++) {
            operations[index].run();
            CHECKS.same(false, before.equals(Hedges.state(hedge)), "operation " + index + " left all as it was");
            CHECKS.same(0, hedge.undo(), "undo() of operation " + index);
            CHECKS.same(before, Hedges.state(hedge), "the hedge after undo of operation " + index);
            CHECKS.badState("undo() again", hedge::undo);
        }
    }

    /** What is in progress or posted comes back with all that belongs to it. */
    private static void undoOfWriting() {
        HedgeMessages hedge = Hedges.of("hedge 20 3 2 30 30 1;twig 0 q 1 1;nest 1 1;message 0 ab;message 0 cde;"
                + "message 1 uvwx;message 1 yz;");
        HedgeMessages twin = Hedges.of("hedge 20 3 2 30 30 1;twig 0 q 1 1;nest 1 1;message 0 ab;message 0 cde;"
                + "message 1 uvwx;message 1 yz;");
        for (int day = 0; day < 9; day++) {
            String before = Hedges.state(hedge);
            hedge.save();
            hedge.endDays(1 + day % 3);
            hedge.undo();
            CHECKS.same(before, Hedges.state(hedge), "the hedge after undo on day " + day);
            hedge.endDays(4);
            hedge.restore();
            CHECKS.same(before, Hedges.state(hedge), "the restored hedge on day " + day);
            hedge.endDays(1);
            twin.endDays(1);
            CHECKS.same(Hedges.state(twin), Hedges.state(hedge), "the hedge a day after day " + day);
        }
    }

    private static void undoDepth() {
        HedgeMessages hedge = new HedgeMessages();
        for (int operation = 0; operation < 11; operation++) {
            hedge.endDays(1);
        }
        for (int left = 7; left >= 5; left--) {
            CHECKS.same(left, hedge.undo(), "undo() of 11 operations");
        }
        CHECKS.same(8, hedge.day(), "day() after three undos");
        hedge.setWorkLimit(9);
        hedge.setWorkLimit(8);
        CHECKS.same(6, hedge.undo(), "undo() after two more operations");
        CHECKS.same(9, hedge.workLimit(), "workLimit() after undo");
        for (int left = 5; left >= 0; left--) {
            CHECKS.same(left, hedge.undo(), "undo() down to the oldest");
        }
        CHECKS.same(3, hedge.day(), "day() at the oldest");
        CHECKS.badState("undo() below the oldest", hedge::undo);
        CHECKS.same(3, hedge.day(), "day() after that");
    }

    private static void undoKeeps() {
        HedgeMessages hedge = new HedgeMessages();
        Hedges.queue(hedge, 0, "word");
        hedge.save();
        hedge.endDays(2);
        hedge.formatHedge();
        int third = hedge.outputByte(11);
        Hedges.put(hedge, "work 99;");
        CHECKS.badArgument("executeCommands()", hedge::executeCommands);
        Hedges.put(hedge, "left");
        CHECKS.same(1, hedge.undo(), "undo() of endDays");
        CHECKS.same(0, hedge.undo(), "undo() of queueMessage");
        CHECKS.same(4, Hedges.bufferLength(hedge), "the length of the buffer");
        CHECKS.same(2, hedge.errorCode(), "errorCode()");
        CHECKS.same(5, hedge.errorPosition(), "errorPosition()");
        CHECKS.same(third, hedge.outputByte(11), "outputByte(11)");
        CHECKS.same("hello no", Hedges.pending(hedge, 0), "queue 0");
        hedge.restore();
        CHECKS.same("hello no word", Hedges.pending(hedge, 0), "queue 0 of the saved state");
        hedge.queueMessage(1);
        CHECKS.same("yes left", Hedges.pending(hedge, 1), "queue 1 with the word that stayed in the buffer");
    }

    private static void noOperations() {
        HedgeMessages hedge = new HedgeMessages();
        hedge.save();
        hedge.formatHedge();
        hedge.append(0, 0, 0, 0, 0);
        hedge.truncate(0);
        CHECKS.badState("undo() after save, formatHedge, append and truncate", hedge::undo);
        hedge.endDays(1);
        hedge.endDays(1);
        hedge.save();
        hedge.formatHedge();
        CHECKS.same(1, hedge.undo(), "undo() after save and formatHedge");
        CHECKS.same(1, hedge.day(), "day()");
    }

    private static void saveAndRestore() {
        HedgeMessages hedge = new HedgeMessages();
        CHECKS.badState("restore() of nothing", hedge::restore);
        hedge.endDays(3);
        hedge.plant(0, 'k');
        hedge.setWorkLimit(9);
        String before = Hedges.state(hedge);
        CHECKS.same(3, hedge.save(), "save()");
        CHECKS.same(before, Hedges.state(hedge), "the hedge after save");
        hedge.endDays(5);
        Hedges.queue(hedge, 0, "more");
        CHECKS.same(3, hedge.restore(), "restore()");
        CHECKS.same(before, Hedges.state(hedge), "the restored hedge");
        CHECKS.badState("undo() after restore", hedge::undo);
        hedge.endDays(1);
        CHECKS.same(3, hedge.restore(), "restore() again");
        CHECKS.same(before, Hedges.state(hedge), "the hedge restored again");
        Hedges.put(hedge, "hedge 5 1 0 1 1 1;message 1 z;");
        hedge.load();
        CHECKS.same(3, hedge.restore(), "restore() after load");
        CHECKS.same(before, Hedges.state(hedge), "the hedge restored after load");
        hedge.endDays(2);
        CHECKS.same(5, hedge.save(), "save() that replaces the first");
        hedge.endDays(2);
        CHECKS.same(5, hedge.restore(), "restore() of the second");
        HedgeMessages other = new HedgeMessages();
        CHECKS.badState("restore() of another object", other::restore);
    }

    private static void output() {
        HedgeMessages hedge = Hedges.of("hedge 12 2 0 9 30 1;twig 11 z 1 1;twig 10 a 0 1;nest 10 9;nest 0 9;"
                + "message 0 cde;");
        CHECKS.same(-1, hedge.outputByte(0), "outputByte(0) before formatHedge");
        CHECKS.same(12, hedge.formatHedge(), "formatHedge()");
        CHECKS.same(90, hedge.outputByte(11), "outputByte(11)");
        CHECKS.same(97, hedge.outputByte(10), "outputByte(10) of a twig in a nest");
        CHECKS.same(42, hedge.outputByte(0), "outputByte(0) of a nest");
        CHECKS.same(46, hedge.outputByte(5), "outputByte(5) of a free slot");
        for (int index : new int[] {-1, 12, 40, Integer.MIN_VALUE, Integer.MAX_VALUE}) {
            CHECKS.same(-1, hedge.outputByte(index), "outputByte(" + index + ")");
        }
        hedge.endDays(1);
        CHECKS.same(46, hedge.outputByte(1), "outputByte(1) of the old output");
        hedge.addNest(3, 9);
        CHECKS.same("*cd=......aZ", Hedges.picture(hedge), "the new output, a nest in a reserved slot");
        Hedges.put(hedge, "hedge 4 1 0 9 30 1;");
        hedge.load();
        CHECKS.same(90, hedge.outputByte(11), "outputByte(11) after load");
        CHECKS.same(4, hedge.formatHedge(), "formatHedge() of 4");
        CHECKS.same(46, hedge.outputByte(3), "outputByte(3)");
        CHECKS.same(-1, hedge.outputByte(4), "outputByte(4)");
    }
}
