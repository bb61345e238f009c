/** Promises 8 to 34: what can be seen of the hedge, the queues and the reasons. */
public final class ViewPromisesTest {
    private static final Checks CHECKS = new Checks();

    private ViewPromisesTest() {
    }

    public static void main(String[] args) {
        CHECKS.test("promises 8 to 12: slots, day, gardener, work", ViewPromisesTest::day);
        CHECKS.test("promises 13 to 16: twigs", ViewPromisesTest::twigs);
        CHECKS.test("promise 17: isReserved", ViewPromisesTest::reserved);
        CHECKS.test("promises 18 to 20: nests", ViewPromisesTest::nests);
        CHECKS.test("promises 21 and 22: pending messages", ViewPromisesTest::pending);
        CHECKS.test("promises 23 to 25: messages in progress and posted", ViewPromisesTest::written);
        CHECKS.test("promise 26: nextStartSlot", ViewPromisesTest::nextStart);
        CHECKS.test("promise 27: longestFreeRun", ViewPromisesTest::freeRun);
        CHECKS.test("promise 28: yardLetterCount", ViewPromisesTest::yards);
        CHECKS.test("promise 29: plantReason", ViewPromisesTest::plantReason);
        CHECKS.test("promise 30: removeReason", ViewPromisesTest::removeReason);
        CHECKS.test("promise 31: trimReason", ViewPromisesTest::trimReason);
        CHECKS.test("promise 32: writeReason", ViewPromisesTest::writeReason);
        CHECKS.test("promise 33: keepReason", ViewPromisesTest::keepReason);
        CHECKS.test("promise 34: daysUntilInspection", ViewPromisesTest::daysUntilInspection);
        CHECKS.close();
    }

    private static void day() {
        CHECKS.same(4, Hedges.of("hedge 4 1 0 1 1 1;").slotCount(), "slotCount()");
        CHECKS.same(40, Hedges.of("hedge 40 1 0 1 1 1;").slotCount(), "slotCount()");
        HedgeMessages hedge = new HedgeMessages();
        for (int day = 0; day < 6; day++) {
            CHECKS.same(day, hedge.day(), "day()");
            CHECKS.same(day % 2, hedge.activeGardener(), "activeGardener() on day " + day);
            CHECKS.same(4, hedge.actionsLeft(), "actionsLeft() on day " + day);
            hedge.endDays(1);
        }
        hedge = Hedges.of("hedge 8 2 0 9 30 1;");
        hedge.plant(0, 'a');
        CHECKS.same(1, hedge.actionsLeft(), "actionsLeft() after planting");
        hedge.trim(0, 1);
        CHECKS.same(0, hedge.actionsLeft(), "actionsLeft() after trimming");
        hedge.addNest(3, 1);
        hedge.setWorkLimit(7);
        CHECKS.same(7, hedge.workLimit(), "workLimit()");
        CHECKS.same(0, hedge.actionsLeft(), "actionsLeft() after setWorkLimit");
        hedge.endDays(1);
        CHECKS.same(7, hedge.actionsLeft(), "actionsLeft() the day after");
    }

    private static void twigs() {
        HedgeMessages hedge = Hedges.of("hedge 8 2 3 99 30 1;twig 7 z 1 99;twig 0 a 0 1;");
        CHECKS.same(2, hedge.twigCount(), "twigCount()");
        CHECKS.same(97, hedge.letterAt(0), "letterAt(0)");
        CHECKS.same(122, hedge.letterAt(7), "letterAt(7)");
        CHECKS.same(0, hedge.ownerAt(0), "ownerAt(0)");
        CHECKS.same(1, hedge.ownerAt(7), "ownerAt(7)");
        CHECKS.same(1, hedge.lengthAt(0), "lengthAt(0)");
        CHECKS.same(99, hedge.lengthAt(7), "lengthAt(7)");
        hedge.endDays(2);
        CHECKS.same(105, hedge.lengthAt(7), "lengthAt(7) after two days");
        CHECKS.same(7, hedge.lengthAt(0), "lengthAt(0) after two days");
        hedge.remove(0);
        CHECKS.same(1, hedge.twigCount(), "twigCount() after remove");
        CHECKS.same(-1, hedge.letterAt(0), "letterAt(0) after remove");
        CHECKS.same(-1, hedge.ownerAt(0), "ownerAt(0) after remove");
        CHECKS.same(0, hedge.lengthAt(0), "lengthAt(0) after remove");
        CHECKS.same(-1, hedge.ownerAt(3), "ownerAt(3) of an empty slot");
        CHECKS.slotOnly("letterAt", 8, hedge::letterAt);
        CHECKS.slotOnly("ownerAt", 8, hedge::ownerAt);
        CHECKS.slotOnly("lengthAt", 8, hedge::lengthAt);
    }

    private static void reserved() {
        HedgeMessages hedge = Hedges.of("hedge 8 2 0 9 30 1;message 0 abc;twig 7 q 0 1;nest 6 9;");
        CHECKS.same(false, hedge.isReserved(0), "isReserved(0) of a pending message");
        hedge.endDays(1);
        String seen = "";
        for (int slot = 0; slot < 8; slot++) {
            seen += hedge.isReserved(slot) ? "r" : "-";
        }
        CHECKS.same("rrr-----", seen, "reserved by a message in progress");
        hedge.endDays(2);
        CHECKS.same("abc...*q", Hedges.picture(hedge), "the hedge with a posted message");
        CHECKS.same(true, hedge.isReserved(0) && hedge.isReserved(2), "reserved by a posted message");
        CHECKS.same(false, hedge.isReserved(7) || hedge.isReserved(6), "reserved by a twig or a nest");
        hedge.endDays(1);
        CHECKS.same(false, hedge.isReserved(0) || hedge.isReserved(2), "isReserved when delivered");
        CHECKS.slotOnly("isReserved", 8, hedge::isReserved);
    }

    private static void nests() {
        HedgeMessages hedge = Hedges.of("hedge 12 2 0 9 30 1;nest 0 2;nest 6 30;nest 11 1;twig 6 a 0 1;");
        String seen = "";
        for (int slot = 0; slot < 12; slot++) {
            seen += hedge.isProtected(slot) ? "p" : "-";
        }
        CHECKS.same("pp---ppp--pp", seen, "isProtected");
        CHECKS.same(3, hedge.nestCount(), "nestCount()");
        CHECKS.same(30, hedge.nestDays(6), "nestDays(6)");
        CHECKS.same(0, hedge.nestDays(5), "nestDays(5)");
        hedge.endDays(1);
        CHECKS.same(1, hedge.nestDays(0), "nestDays(0) a day later");
        CHECKS.same(0, hedge.nestDays(11), "nestDays(11) a day later");
        CHECKS.same(2, hedge.nestCount(), "nestCount() a day later");
        CHECKS.same(false, hedge.isProtected(11) || hedge.isProtected(10), "protection of a nest that is gone");
        CHECKS.same(true, hedge.isProtected(0) && hedge.isProtected(1), "protection of a nest that stays");
        hedge.endDays(29);
        CHECKS.same(0, hedge.nestCount(), "nestCount() after 30 days");
        CHECKS.same(97, hedge.letterAt(6), "the twig that was in a nest's slot");
        HedgeMessages six = Hedges.of("hedge 6 1 0 1 1 1;nest 0 1;nest 1 1;nest 2 1;nest 3 1;nest 4 1;nest 5 1;");
        CHECKS.same(6, six.nestCount(), "nestCount() of six");
        CHECKS.slotOnly("isProtected", 12, hedge::isProtected);
        CHECKS.slotOnly("nestDays", 12, hedge::nestDays);
    }

    private static void pending() {
        HedgeMessages hedge = Hedges.of("hedge 8 2 0 9 30 1;message 0 a;message 1 abcdefghijkl;message 0 xyz;");
        CHECKS.same(2, hedge.pendingCount(0), "pendingCount(0)");
        CHECKS.same(1, hedge.pendingCount(1), "pendingCount(1)");
        CHECKS.same(97, hedge.pendingLetter(0, 0, 0), "pendingLetter(0, 0, 0)");
        CHECKS.same(122, hedge.pendingLetter(0, 1, 2), "pendingLetter(0, 1, 2)");
        CHECKS.same(108, hedge.pendingLetter(1, 0, 11), "pendingLetter(1, 0, 11)");
        int[][] missing = {{0, 0, 1}, {0, 1, 3}, {0, 2, 0}, {1, 0, 12}, {1, 1, 0}, {0, -1, 0}, {0, 0, -1}};
        for (int[] at : missing) {
            CHECKS.same(-1, hedge.pendingLetter(at[0], at[1], at[2]), "pendingLetter without a letter");
        }
        for (int far : new int[] {Integer.MIN_VALUE, Integer.MAX_VALUE, 357913942, 1431655766}) {
            CHECKS.same(-1, hedge.pendingLetter(0, far, 0), "pendingLetter of message " + far);
            CHECKS.same(-1, hedge.pendingLetter(0, 0, far), "pendingLetter of letter " + far);
        }
        for (int message = 3; message <= 8; message++) {
            CHECKS.same(message, Hedges.queue(hedge, 0, "m"), "queueMessage");
        }
        CHECKS.same(8, hedge.pendingCount(0), "pendingCount(0) of eight");
        hedge.cancelMessage(0, 0);
        CHECKS.same("xyz m m m m m m", Hedges.pending(hedge, 0), "queue 0 after cancelMessage");
        CHECKS.gardenerOnly("pendingCount", hedge::pendingCount);
        CHECKS.gardenerOnly("pendingLetter", gardener -> hedge.pendingLetter(gardener, 0, 0));
    }

    private static void written() {
        HedgeMessages hedge = Hedges.of("hedge 20 2 0 9 30 1;message 0 abc;message 0 de;message 1 uvwx;twig 1 q 1 1;");
        CHECKS.same(0, hedge.lettersWritten(0), "lettersWritten(0) before writing");
        CHECKS.same(-1, hedge.startSlot(0), "startSlot(0) before writing");
        hedge.endDays(1);
        CHECKS.same(".Q.ab=..............", Hedges.picture(hedge), "day 1");
        CHECKS.same(2, hedge.lettersWritten(0), "lettersWritten(0) on day 1");
        CHECKS.same(3, hedge.startSlot(0), "startSlot(0) on day 1");
        CHECKS.same(0, hedge.postedCount(0), "postedCount(0) on day 1");
        hedge.endDays(1);
        CHECKS.same(".Q.ab=.UV==.........", Hedges.picture(hedge), "day 2");
        CHECKS.same(2, hedge.lettersWritten(1), "lettersWritten(1) on day 2");
        CHECKS.same(7, hedge.startSlot(1), "startSlot(1) on day 2");
        hedge.endDays(1);
        CHECKS.same(".Q.abc.UV==.d=......", Hedges.picture(hedge), "day 3");
        CHECKS.same(1, hedge.lettersWritten(0), "lettersWritten(0) on day 3");
        CHECKS.same(12, hedge.startSlot(0), "startSlot(0) on day 3");
        CHECKS.same(1, hedge.postedCount(0), "postedCount(0) on day 3");
        CHECKS.same(0, hedge.postedCount(1), "postedCount(1) on day 3");
        hedge.endDays(1);
        CHECKS.same(".Q.....UVWX.d=......", Hedges.picture(hedge), "day 4");
        CHECKS.same(0, hedge.postedCount(0), "postedCount(0) on day 4");
        CHECKS.same(1, hedge.postedCount(1), "postedCount(1) on day 4");
        CHECKS.same(0, hedge.lettersWritten(1), "lettersWritten(1) on day 4");
        CHECKS.same(-1, hedge.startSlot(1), "startSlot(1) on day 4");
        HedgeMessages many = Hedges.of("hedge 16 8 0 9 30 1;message 0 a;message 0 b;message 0 c;message 0 d;"
                + "message 0 e;message 0 f;message 0 g;message 0 h;");
        many.endDays(1);
        CHECKS.same("a.b.c.d.e.f.g.h.", Hedges.picture(many), "eight messages in a day");
        CHECKS.same(8, many.postedCount(0), "postedCount(0) of eight");
        CHECKS.gardenerOnly("lettersWritten", hedge::lettersWritten);
        CHECKS.gardenerOnly("startSlot", hedge::startSlot);
        CHECKS.gardenerOnly("postedCount", hedge::postedCount);
    }

    private static void nextStart() {
        String head = "hedge 8 1 0 9 30 1;message 0 abc;message 1 z;";
        checkStart(0, head, "the empty hedge");
        checkStart(2, head + "twig 0 q 0 1;", "behind a twig one slot stays open");
        checkStart(1, head + "nest 0 1;", "a nest needs no open slot");
        checkStart(3, head + "nest 0 1;twig 1 q 0 1;", "a twig behind a nest");
        checkStart(5, head + "twig 3 q 0 1;", "the slot behind the last one holds a twig");
        checkStart(0, head + "twig 4 q 0 1;", "the slot behind the last one is open");
        checkStart(0, head + "nest 3 1;", "the slot behind the last one has a nest");
        checkStart(-1, head + "nest 2 1;twig 4 q 0 1;", "too little room");
        checkStart(5, head + "nest 4 1;twig 1 q 0 1;nest 2 1;nest 3 1;", "up to the end");
        HedgeMessages other = Hedges.of(head + "twig 1 q 0 1;nest 2 1;nest 3 1;nest 4 1;");
        CHECKS.same(5, other.nextStartSlot(0), "nextStartSlot(0) behind nests");
        CHECKS.same(5, other.nextStartSlot(1), "nextStartSlot(1) behind nests");
        HedgeMessages empty = Hedges.of("hedge 8 1 0 9 30 1;");
        CHECKS.same(-1, empty.nextStartSlot(0), "nextStartSlot(0) without a message");
        HedgeMessages long12 = Hedges.of("hedge 11 1 0 9 30 1;message 0 abcdefghijkl;");
        CHECKS.same(-1, long12.nextStartSlot(0), "nextStartSlot(0) of 12 letters in 11 slots");
        HedgeMessages just = Hedges.of("hedge 12 1 0 9 30 1;message 0 abcdefghijkl;");
        CHECKS.same(0, just.nextStartSlot(0), "nextStartSlot(0) of 12 letters in 12 slots");
        HedgeMessages busy = Hedges.of(head + "message 0 de;");
        busy.endDays(1);
        CHECKS.same(4, busy.nextStartSlot(0), "nextStartSlot(0) beside reserved slots without twigs");
        CHECKS.same(4, busy.nextStartSlot(1), "nextStartSlot(1) beside reserved slots without twigs");
        CHECKS.gardenerOnly("nextStartSlot", busy::nextStartSlot);
    }

    private static void checkStart(int due, String configuration, String what) {
        CHECKS.same(due, Hedges.of(configuration).nextStartSlot(0), "nextStartSlot(0): " + what);
    }

    private static void freeRun() {
        CHECKS.same(40, Hedges.of("hedge 40 1 0 9 30 1;").longestFreeRun(), "longestFreeRun() of 40");
        CHECKS.same(4, Hedges.of("hedge 8 1 0 9 30 1;twig 3 q 0 1;").longestFreeRun(), "beside a twig");
        CHECKS.same(3, Hedges.of("hedge 8 1 0 9 30 1;twig 3 q 0 1;nest 7 1;").longestFreeRun(), "beside a nest");
        HedgeMessages full = Hedges.of("hedge 4 1 0 9 30 1;twig 0 q 0 1;nest 1 1;twig 2 q 0 1;nest 3 1;");
        CHECKS.same(0, full.longestFreeRun(), "longestFreeRun() without a free slot");
        HedgeMessages busy = Hedges.of("hedge 8 1 0 9 30 1;message 0 abcde;");
        CHECKS.same(8, busy.longestFreeRun(), "longestFreeRun() before writing");
        busy.endDays(1);
        CHECKS.same(3, busy.longestFreeRun(), "longestFreeRun() beside reserved slots");
    }

    private static void yards() {
        HedgeMessages hedge = Hedges.of("hedge 10 1 0 9 30 4;twig 0 a 0 1;twig 3 b 1 1;twig 4 c 0 1;twig 9 d 0 1;");
        int[] due = {2, 1, 1, 0};
        for (int yard = 0; yard < due.length; yard++) {
            CHECKS.same(due[yard], hedge.yardLetterCount(yard), "yardLetterCount(" + yard + ")");
        }
        for (int yard : new int[] {-1, -2, Integer.MIN_VALUE, Integer.MAX_VALUE, 1 << 30}) {
            CHECKS.same(0, hedge.yardLetterCount(yard), "yardLetterCount(" + yard + ")");
        }
        HedgeMessages single = Hedges.of("hedge 10 1 0 9 30 1;twig 9 a 0 1;");
        CHECKS.same(1, single.yardLetterCount(9), "yardLetterCount(9) of yards of one slot");
        CHECKS.same(0, single.yardLetterCount(8), "yardLetterCount(8) of yards of one slot");
        CHECKS.same(4, Hedges.of("hedge 4 1 0 9 30 40;twig 0 a 0 1;twig 1 b 1 1;twig 2 c 0 1;twig 3 d 0 1;")
                .yardLetterCount(0), "yardLetterCount(0) of a yard longer than the hedge");
    }

    private static void plantReason() {
        HedgeMessages hedge = Hedges.of("hedge 12 1 0 9 30 1;message 1 ab;twig 8 q 1 1;nest 8 9;nest 10 9;");
        CHECKS.same(0, hedge.plantReason(0), "plantReason of a free slot");
        CHECKS.same(2, hedge.plantReason(8), "plantReason of a twig in a nest");
        CHECKS.same(4, hedge.plantReason(10), "plantReason of a nest");
        CHECKS.same(4, Hedges.of("hedge 4 1 0 9 30 1;nest 2 1;").plantReason(2), "plantReason of a nest for a day");
        CHECKS.same(0, hedge.plantReason(9), "plantReason beside nests");
        hedge.endDays(2);
        CHECKS.same(2, hedge.plantReason(0), "plantReason of a message's twig");
        CHECKS.same(3, hedge.plantReason(1), "plantReason of a reserved slot");
        hedge.addNest(1, 5);
        CHECKS.same(3, hedge.plantReason(1), "plantReason of a reserved slot with a nest");
        CHECKS.same(0, hedge.plantReason(2), "plantReason beside a message");
        hedge.plant(2, 'x');
        for (int slot : new int[] {0, 1, 4, 8, 10}) {
            CHECKS.same(1, hedge.plantReason(slot), "plantReason without actions");
        }
        CHECKS.slotOnly("plantReason", 12, hedge::plantReason);
    }

    private static void removeReason() {
        HedgeMessages hedge = Hedges.of("hedge 14 2 0 9 30 1;message 0 ab;twig 5 q 1 1;twig 6 r 0 1;twig 8 s 0 1;"
                + "twig 9 t 1 1;nest 7 9;twig 13 u 0 1;");
        CHECKS.same(5, hedge.removeReason(4), "removeReason of an empty slot");
        CHECKS.same(5, hedge.removeReason(7), "removeReason of a nest");
        CHECKS.same(6, hedge.removeReason(5), "removeReason of the other's twig");
        CHECKS.same(8, hedge.removeReason(6), "removeReason beside a nest");
        CHECKS.same(0, hedge.removeReason(13), "removeReason of an own twig");
        hedge.addNest(5, 9);
        CHECKS.same(6, hedge.removeReason(5), "removeReason of the other's twig in a nest");
        hedge.endDays(1);
        CHECKS.same(6, hedge.removeReason(0), "removeReason of the other's message");
        CHECKS.same(8, hedge.removeReason(5), "removeReason of an own twig in a nest");
        CHECKS.same(0, hedge.removeReason(9), "removeReason of a twig of gardener 1");
        HedgeMessages own = Hedges.of("hedge 14 2 0 9 30 1;message 0 abc;nest 12 3;");
        own.endDays(2);
        own.addNest(0, 3);
        CHECKS.same(7, own.removeReason(1), "removeReason of an own message in progress, beside a nest");
        own.plant(8, 'x');
        own.remove(8);
        CHECKS.same(1, own.removeReason(0), "removeReason without actions");
        CHECKS.same(1, own.removeReason(5), "removeReason without actions or a twig");
        CHECKS.slotOnly("removeReason", 14, own::removeReason);
    }

    private static void trimReason() {
        HedgeMessages hedge = Hedges.of("hedge 14 2 3 9 30 1;message 0 abc;twig 5 q 1 1;twig 6 r 0 1;nest 7 9;"
                + "twig 13 u 0 1;");
        CHECKS.same(5, hedge.trimReason(7), "trimReason of a nest");
        CHECKS.same(6, hedge.trimReason(5), "trimReason of the other's twig");
        CHECKS.same(8, hedge.trimReason(6), "trimReason beside a nest");
        CHECKS.same(0, hedge.trimReason(13), "trimReason of an own twig");
        hedge.endDays(2);
        CHECKS.same(0, hedge.trimReason(0), "trimReason of an own message");
        CHECKS.same(5, hedge.trimReason(2), "trimReason of a reserved slot");
        hedge.addNest(1, 2);
        CHECKS.same(8, hedge.trimReason(0), "trimReason of an own message beside a nest");
        hedge.trim(13, 1);
        hedge.trim(13, 1);
        CHECKS.same(1, hedge.trimReason(13), "trimReason without actions");
        CHECKS.same(1, hedge.trimReason(12), "trimReason without actions or a twig");
        CHECKS.slotOnly("trimReason", 14, hedge::trimReason);
    }

    private static void writeReason() {
        HedgeMessages hedge = Hedges.of("hedge 6 1 0 9 30 1;message 0 abcd;message 0 ef;twig 5 q 0 1;");
        CHECKS.same(0, hedge.writeReason(0), "writeReason of a message that can start");
        CHECKS.same(13, hedge.writeReason(1), "writeReason of the other");
        hedge.trim(5, 1);
        CHECKS.same(1, hedge.writeReason(0), "writeReason without actions");
        CHECKS.same(13, hedge.writeReason(1), "writeReason of the other without actions");
        hedge.undo();
        hedge.plant(3, 'x');
        hedge.setWorkLimit(3);
        hedge.endDays(1);
        CHECKS.same(11, hedge.writeReason(1), "writeReason of an empty queue");
        CHECKS.same(13, hedge.writeReason(0), "writeReason on the other's day");
        hedge.endDays(1);
        CHECKS.same(12, hedge.writeReason(0), "writeReason without room");
        hedge.remove(3);
        CHECKS.same(0, hedge.writeReason(0), "writeReason with room");
        hedge.endDays(2);
        CHECKS.same("ab==.q", Hedges.picture(hedge), "the hedge");
        CHECKS.same(-1, hedge.nextStartSlot(0), "nextStartSlot(0)");
        CHECKS.same(0, hedge.writeReason(0), "writeReason of a message in progress");
        hedge.cancelMessage(0, 0);
        CHECKS.same(0, hedge.writeReason(0), "writeReason of a message in progress and an empty queue");
        CHECKS.gardenerOnly("writeReason", hedge::writeReason);
        // What is posted by the other leaves only in step 1 and still takes its room here.
        HedgeMessages posted = Hedges.of("hedge 4 4 0 9 30 1;message 0 abcd;message 1 wxyz;");
        posted.endDays(1);
        CHECKS.same(12, posted.writeReason(1), "writeReason before step 1");
        posted.endDays(1);
        CHECKS.same("WXYZ", Hedges.picture(posted), "what is written after step 1");
    }

    private static void keepReason() {
        HedgeMessages hedge = Hedges.of("hedge 12 1 0 9 30 1;twig 0 a 0 9;twig 2 b 1 10;twig 4 c 0 10;nest 5 1;"
                + "twig 6 d 0 9;twig 8 e 0 99;nest 8 1;");
        int[] due = {4 + 10, 5, 0, 5, 8, 5, 14, 5, 8, 5, 5, 5};
        for (int slot = 0; slot < due.length; slot++) {
            CHECKS.same(due[slot], hedge.keepReason(slot), "keepReason(" + slot + ")");
        }
        hedge.plant(10, 'z');
        CHECKS.same(14, hedge.keepReason(10), "keepReason without actions");
        CHECKS.slotOnly("keepReason", 12, hedge::keepReason);
    }

    private static void daysUntilInspection() {
        HedgeMessages hedge = Hedges.of("hedge 4 1 0 9 3 1;");
        int[] due = {3, 2, 1, 3, 2, 1, 3};
        for (int day = 0; day < due.length; day++) {
            CHECKS.same(due[day], hedge.daysUntilInspection(), "daysUntilInspection() on day " + day);
            hedge.endDays(1);
        }
        HedgeMessages daily = Hedges.of("hedge 4 1 0 9 1 1;");
        CHECKS.same(1, daily.daysUntilInspection(), "daysUntilInspection() on day 0 of daily ones");
        daily.endDays(1);
        CHECKS.same(1, daily.daysUntilInspection(), "daysUntilInspection() on day 1 of daily ones");
        CHECKS.same(30, Hedges.of("hedge 4 1 0 9 30 1;").daysUntilInspection(), "daysUntilInspection() of 30");
    }
}
