/** Promises 52 to 58 and 60 to 64: a test of its own for each sentence that names a boundary case. */
public final class OperationEdgesTest {
    private static final Checks CHECKS = new Checks();

    private OperationEdgesTest() {
    }

    public static void main(String[] args) {
        plant();
        remove();
        trim();
        addNest();
        queueMessage();
        cancelMessage();
        setWorkLimit();
        undo();
        undoOfRefused();
        undoOfEach();
        save();
        restore();
        formatHedge();
        outputByte();
        manyCalls();
        CHECKS.close();
    }

    // ---- Promise 52 ----

    private static HedgeMessages eight(String statements) {
        return Hedges.of("hedge 8 2 0 9 30 1;" + statements);
    }

    private static void plant() {
        CHECKS.test("promise 52: in the first and in the last slot", () -> {
            HedgeMessages hedge = eight("");
            CHECKS.same(1, hedge.plant(0, 'b'), "plant(0, b)");
            CHECKS.same(2, hedge.plant(7, 'c'), "plant(7, c)");
            CHECKS.same("b......c", Hedges.picture(hedge), "the hedge");
        });
        CHECKS.test("promise 52: in the last slot of 40", () -> {
            HedgeMessages hedge = Hedges.of("hedge 40 1 0 9 30 1;");
            CHECKS.same(1, hedge.plant(39, 'a'), "plant(39, a)");
            CHECKS.same((int) 'a', hedge.letterAt(39), "letterAt(39)");
        });
        CHECKS.test("promise 52: no slot below the first one and above the last one", () -> {
            Witness witness = new Witness(CHECKS, eight(""));
            for (int slot : new int[] {-1, 8, 39, 40, Integer.MIN_VALUE, Integer.MAX_VALUE}) {
                witness.refusesIndex("plant(" + slot + ", a)", () -> witness.hedge.plant(slot, 'a'));
            }
            witness.close();
        });
        CHECKS.test("promise 52: the letters 97 and 122", () -> {
            HedgeMessages hedge = eight("");
            hedge.plant(0, 97);
            hedge.plant(1, 122);
            CHECKS.same(97, hedge.letterAt(0), "letterAt(0)");
            CHECKS.same(122, hedge.letterAt(1), "letterAt(1)");
        });
        CHECKS.test("promise 52: not the letters 96 and 123", () -> {
            Witness witness = new Witness(CHECKS, eight(""));
            for (int letter : new int[] {96, 123, 65, 0, -1, 353, Integer.MIN_VALUE, Integer.MAX_VALUE}) {
                witness.refusesArgument("plant(0, " + letter + ")", () -> witness.hedge.plant(0, letter));
            }
            witness.close();
        });
        CHECKS.test("promise 52: not if plantReason has something against it", () -> {
            HedgeMessages hedge = eight("message 0 abc;twig 5 q 1 1;nest 7 9;");
            hedge.endDays(2);
            Witness witness = new Witness(CHECKS, hedge);
            for (int slot : new int[] {0, 2, 5, 7}) {
                witness.refusesState("plant(" + slot + ", a)", () -> witness.hedge.plant(slot, 'a'));
            }
            witness.close();
        });
        CHECKS.test("promise 52: not without an action", () -> {
            HedgeMessages hedge = eight("");
            hedge.plant(0, 'a');
            hedge.plant(1, 'b');
            Witness witness = new Witness(CHECKS, hedge);
            witness.refusesState("plant(2, c)", () -> witness.hedge.plant(2, 'c'));
            witness.close();
        });
        CHECKS.test("promise 52: the slot is looked at before the letter, the letter before the reason", () -> {
            HedgeMessages hedge = eight("twig 0 a 0 1;");
            CHECKS.badIndex("plant(8, 96)", () -> hedge.plant(8, 96));
            CHECKS.badArgument("plant(0, 96)", () -> hedge.plant(0, 96));
            hedge.plant(1, 'b');
            hedge.plant(2, 'c');
            CHECKS.badIndex("plant(-1, a) without actions", () -> hedge.plant(-1, 'a'));
            CHECKS.badArgument("plant(3, 123) without actions", () -> hedge.plant(3, 123));
        });
        CHECKS.test("promise 52: the new twig has length 1, by hand, of the active gardener", () -> {
            HedgeMessages hedge = eight("");
            hedge.endDays(1);
            hedge.plant(3, 'x');
            CHECKS.same(1, hedge.lengthAt(3), "lengthAt(3)");
            CHECKS.same(1, hedge.ownerAt(3), "ownerAt(3)");
            CHECKS.same(HedgeMessages.ALLOWED, hedge.removeReason(3), "removeReason(3)");
            CHECKS.same(1, hedge.actionsLeft(), "actionsLeft()");
        });
        CHECKS.test("promise 52: in the slot of a twig that is gone", () -> {
            HedgeMessages hedge = eight("twig 3 a 0 9;");
            hedge.remove(3);
            CHECKS.same(1, hedge.plant(3, 'b'), "plant(3, b)");
            CHECKS.same(1, hedge.lengthAt(3), "lengthAt(3)");
        });
    }

    // ---- Promise 53 ----

    private static void remove() {
        CHECKS.test("promise 53: from the first and from the last slot", () -> {
            HedgeMessages hedge = eight("twig 0 a 0 1;twig 7 z 0 99;");
            CHECKS.same((int) 'a', hedge.remove(0), "remove(0)");
            CHECKS.same((int) 'z', hedge.remove(7), "remove(7)");
            CHECKS.same(0, hedge.twigCount(), "twigCount()");
            CHECKS.same(0, hedge.actionsLeft(), "actionsLeft()");
        });
        CHECKS.test("promise 53: no slot below the first one and above the last one", () -> {
            Witness witness = new Witness(CHECKS, eight("twig 0 a 0 1;twig 7 z 0 99;"));
            for (int slot : new int[] {-1, 8, 39, 40, Integer.MIN_VALUE, Integer.MAX_VALUE}) {
                witness.refusesIndex("remove(" + slot + ")", () -> witness.hedge.remove(slot));
            }
            witness.close();
        });
        CHECKS.test("promise 53: not if removeReason has something against it", () -> {
            HedgeMessages hedge = eight("message 0 abc;twig 5 q 1 1;nest 7 9;twig 6 r 0 1;");
            hedge.endDays(2);
            Witness witness = new Witness(CHECKS, hedge);
            for (int slot : new int[] {0, 2, 4, 5, 6, 7}) {
                witness.refusesState("remove(" + slot + ")", () -> witness.hedge.remove(slot));
            }
            witness.close();
        });
        CHECKS.test("promise 53: not without an action", () -> {
            HedgeMessages hedge = eight("twig 3 a 0 1;");
            hedge.plant(0, 'a');
            hedge.plant(1, 'b');
            Witness witness = new Witness(CHECKS, hedge);
            witness.refusesState("remove(3)", () -> witness.hedge.remove(3));
            witness.close();
        });
        CHECKS.test("promise 53: the slot is looked at before the reason", () -> {
            HedgeMessages hedge = eight("");
            hedge.plant(0, 'a');
            hedge.plant(1, 'b');
            CHECKS.badIndex("remove(8) without actions", () -> hedge.remove(8));
        });
        CHECKS.test("promise 53: a twig is removed once", () -> {
            HedgeMessages hedge = eight("twig 3 a 0 1;");
            hedge.remove(3);
            CHECKS.badState("remove(3) again", () -> hedge.remove(3));
        });
        CHECKS.test("promise 53: its length doesn't matter", () ->
                CHECKS.same((int) 'a', eight("twig 3 a 0 99;").remove(3), "remove(3)"));
    }

    // ---- Promise 54 ----

    private static HedgeMessages trimmed(int length) {
        return eight("twig 3 a 0 " + length + ";");
    }

    private static void trim() {
        CHECKS.test("promise 54: by 1 centimetre", () -> CHECKS.same(8, trimmed(9).trim(3, 1), "trim(3, 1) of 9 cm"));
        CHECKS.test("promise 54: by all but one", () -> CHECKS.same(1, trimmed(9).trim(3, 8), "trim(3, 8) of 9 cm"));
        CHECKS.test("promise 54: by all but two", () -> CHECKS.same(2, trimmed(9).trim(3, 7), "trim(3, 7) of 9 cm"));
        CHECKS.test("promise 54: at least 1 centimetre remains", () -> {
            CHECKS.same(1, trimmed(9).trim(3, 9), "trim(3, 9) of 9 cm");
            CHECKS.same(1, trimmed(9).trim(3, 10), "trim(3, 10) of 9 cm");
            CHECKS.same(1, trimmed(9).trim(3, 99), "trim(3, 99) of 9 cm");
        });
        CHECKS.test("promise 54: a twig of 1 centimetre stays as it is, but takes an action", () -> {
            HedgeMessages hedge = trimmed(1);
            CHECKS.same(1, hedge.trim(3, 1), "trim(3, 1) of 1 cm");
            CHECKS.same(1, hedge.lengthAt(3), "lengthAt(3)");
            CHECKS.same(1, hedge.actionsLeft(), "actionsLeft()");
            CHECKS.same(0, hedge.undo(), "undo()");
            CHECKS.same(2, hedge.actionsLeft(), "actionsLeft() after undo");
        });
        CHECKS.test("promise 54: by 99 centimetres", () -> {
            HedgeMessages hedge = Hedges.of("hedge 8 2 9 99 30 1;twig 3 a 0 99;nest 7 30;");
            hedge.endDays(2);
            CHECKS.same(117 - 99, hedge.trim(3, 99), "trim(3, 99) of 117 cm");
        });
        CHECKS.test("promise 54: no less than 1 centimetre and no more than 99", () -> {
            Witness witness = new Witness(CHECKS, trimmed(9));
            for (int cm : new int[] {0, -1, 100, Integer.MIN_VALUE, Integer.MAX_VALUE}) {
                witness.refusesArgument("trim(3, " + cm + ")", () -> witness.hedge.trim(3, cm));
            }
            witness.close();
        });
        CHECKS.test("promise 54: in the first and in the last slot", () -> {
            HedgeMessages hedge = eight("twig 0 a 0 9;twig 7 b 0 9;");
            CHECKS.same(8, hedge.trim(0, 1), "trim(0, 1)");
            CHECKS.same(7, hedge.trim(7, 2), "trim(7, 2)");
        });
        CHECKS.test("promise 54: no slot below the first one and above the last one", () -> {
            Witness witness = new Witness(CHECKS, eight("twig 0 a 0 9;twig 7 z 0 99;"));
            for (int slot : new int[] {-1, 8, 39, 40, Integer.MIN_VALUE, Integer.MAX_VALUE}) {
                witness.refusesIndex("trim(" + slot + ", 1)", () -> witness.hedge.trim(slot, 1));
            }
            witness.close();
        });
        CHECKS.test("promise 54: not if trimReason has something against it", () -> {
            HedgeMessages hedge = eight("message 0 abc;twig 5 q 1 1;nest 7 9;twig 6 r 0 1;");
            hedge.endDays(2);
            Witness witness = new Witness(CHECKS, hedge);
            for (int slot : new int[] {2, 4, 5, 6, 7}) {
                witness.refusesState("trim(" + slot + ", 1)", () -> witness.hedge.trim(slot, 1));
            }
            witness.close();
        });
        CHECKS.test("promise 54: not without an action", () -> {
            HedgeMessages hedge = trimmed(9);
            hedge.plant(0, 'a');
            hedge.plant(1, 'b');
            Witness witness = new Witness(CHECKS, hedge);
            witness.refusesState("trim(3, 1)", () -> witness.hedge.trim(3, 1));
            witness.close();
        });
        CHECKS.test("promise 54: the slot is looked at before the centimetres, these before the reason", () -> {
            CHECKS.badIndex("trim(8, 0)", () -> trimmed(9).trim(8, 0));
            CHECKS.badArgument("trim(0, 0)", () -> trimmed(9).trim(0, 0));
            CHECKS.badArgument("trim(0, 100)", () -> trimmed(9).trim(0, 100));
            CHECKS.badState("trim(0, 99)", () -> trimmed(9).trim(0, 99));
        });
        CHECKS.test("promise 54: a letter of a message, which keeps its letter and its owner", () -> {
            HedgeMessages hedge = Hedges.of("hedge 8 1 4 99 30 1;message 0 abc;");
            hedge.endDays(2);
            CHECKS.same(7, hedge.trim(0, 2), "trim(0, 2) of 9 cm");
            CHECKS.same((int) 'a', hedge.letterAt(0), "letterAt(0)");
            CHECKS.same(0, hedge.ownerAt(0), "ownerAt(0)");
            CHECKS.same(0, hedge.wrongLetters(), "wrongLetters()");
        });
    }

    // ---- Promise 55 ----

    private static void addNest() {
        String five = "nest 0 9;nest 1 9;nest 2 9;nest 3 9;nest 4 9;";
        CHECKS.test("promise 55: for 1 day and for 30 days", () -> {
            HedgeMessages hedge = eight("");
            CHECKS.same(1, hedge.addNest(0, 1), "addNest(0, 1)");
            CHECKS.same(2, hedge.addNest(7, 30), "addNest(7, 30)");
            CHECKS.same(1, hedge.nestDays(0), "nestDays(0)");
            CHECKS.same(30, hedge.nestDays(7), "nestDays(7)");
        });
        CHECKS.test("promise 55: no fewer than 1 day and no more than 30", () -> {
            Witness witness = new Witness(CHECKS, eight(""));
            for (int days : new int[] {0, -1, 31, Integer.MIN_VALUE, Integer.MAX_VALUE}) {
                witness.refusesArgument("addNest(3, " + days + ")", () -> witness.hedge.addNest(3, days));
            }
            witness.close();
        });
        CHECKS.test("promise 55: no slot below the first one and above the last one", () -> {
            Witness witness = new Witness(CHECKS, eight(""));
            for (int slot : new int[] {-1, 8, 39, 40, Integer.MIN_VALUE, Integer.MAX_VALUE}) {
                witness.refusesIndex("addNest(" + slot + ", 1)", () -> witness.hedge.addNest(slot, 1));
            }
            witness.close();
        });
        CHECKS.test("promise 55: the sixth nest", () -> CHECKS.same(6, eight(five).addNest(7, 1), "addNest(7, 1)"));
        CHECKS.test("promise 55: not a seventh", () -> {
            Witness witness = new Witness(CHECKS, eight(five + "nest 5 9;"));
            witness.refusesState("addNest(7, 1)", () -> witness.hedge.addNest(7, 1));
            witness.close();
        });
        CHECKS.test("promise 55: not where a nest is", () -> {
            Witness witness = new Witness(CHECKS, eight(five));
            witness.refusesState("addNest(0, 30)", () -> witness.hedge.addNest(0, 30));
            witness.refusesState("addNest(4, 1)", () -> witness.hedge.addNest(4, 1));
            witness.close();
        });
        CHECKS.test("promise 55: beside a nest", () -> CHECKS.same(2, eight("nest 3 9;").addNest(4, 1), "addNest(4, 1)"));
        CHECKS.test("promise 55: where a nest was", () -> {
            HedgeMessages hedge = eight("nest 3 1;");
            hedge.endDays(1);
            CHECKS.same(1, hedge.addNest(3, 5), "addNest(3, 5)");
            CHECKS.same(5, hedge.nestDays(3), "nestDays(3)");
        });
        CHECKS.test("promise 55: above a twig and in a reserved slot", () -> {
            HedgeMessages hedge = Hedges.of("hedge 8 1 0 9 30 1;message 0 abc;twig 7 q 1 1;");
            hedge.endDays(1);
            CHECKS.same(1, hedge.addNest(7, 9), "addNest(7, 9) above a twig");
            CHECKS.same(2, hedge.addNest(0, 9), "addNest(0, 9) above a letter");
            CHECKS.same(3, hedge.addNest(2, 9), "addNest(2, 9) in a reserved slot");
            CHECKS.same("a==....Q", Hedges.picture(hedge), "the hedge");
        });
        CHECKS.test("promise 55: without an action", () -> {
            HedgeMessages hedge = eight("");
            hedge.plant(0, 'a');
            hedge.plant(1, 'b');
            CHECKS.same(1, hedge.addNest(0, 9), "addNest(0, 9)");
            CHECKS.same(0, hedge.actionsLeft(), "actionsLeft()");
        });
        CHECKS.test("promise 55: the slot is looked at before the days, these before the nests", () -> {
            CHECKS.badIndex("addNest(8, 0)", () -> eight(five + "nest 5 9;").addNest(8, 0));
            CHECKS.badArgument("addNest(0, 0)", () -> eight(five + "nest 5 9;").addNest(0, 0));
            CHECKS.badArgument("addNest(0, 31)", () -> eight("nest 0 9;").addNest(0, 31));
        });
    }

    // ---- Promise 56 ----

    private static void word(String word) {
        HedgeMessages hedge = Hedges.put(eight(""), word);
        CHECKS.same(1, hedge.queueMessage(0), "queueMessage(0) of " + word);
        CHECKS.same(word, Hedges.pending(hedge, 0), "queue 0");
        CHECKS.same(0, Hedges.truncated(hedge, 0), "the length of the input buffer");
    }

    private static void noWord(String text) {
        HedgeMessages hedge = Hedges.put(eight("message 0 a;"), text);
        String before = Hedges.state(hedge);
        CHECKS.badArgument("queueMessage(0) of " + text, () -> hedge.queueMessage(0));
        CHECKS.same(before, Hedges.state(hedge), "the hedge after " + text);
        CHECKS.same(text.length(), Hedges.truncated(hedge, text.length()), "the length of the input buffer");
        CHECKS.badState("undo() after " + text, hedge::undo);
    }

    private static void queueMessage() {
        CHECKS.test("promise 56: a word of 1 letter", () -> {
            word("a");
            word("z");
        });
        CHECKS.test("promise 56: a word of 12 letters", () -> word("abcdefghijkl"));
        CHECKS.test("promise 56: no word of 13 letters", () -> noWord("abcdefghijklm"));
        CHECKS.test("promise 56: no empty buffer", () -> noWord(""));
        CHECKS.test("promise 56: no buffer of 800 letters", () -> noWord("a".repeat(800)));
        CHECKS.test("promise 56: no space before, within and behind the word", () -> {
            noWord(" ab");
            noWord("a b");
            noWord("ab ");
            noWord(" ");
        });
        CHECKS.test("promise 56: no sign but a to z", () -> {
            for (int sign = 0; sign < 256; sign++) {
                if (sign >= 'a' && sign <= 'z') {
                    word("p" + (char) sign);
                } else {
                    noWord("p" + (char) sign);
                }
            }
        });
        CHECKS.test("promise 56: the eighth message", () -> {
            HedgeMessages hedge = Hedges.put(eight("message 1 a;".repeat(7)), "last");
            CHECKS.same(8, hedge.queueMessage(1), "queueMessage(1)");
            CHECKS.same("a a a a a a a last", Hedges.pending(hedge, 1), "queue 1");
        });
        CHECKS.test("promise 56: not a ninth, and the word stays in the buffer", () -> {
            HedgeMessages hedge = Hedges.put(eight("message 1 a;".repeat(8)), "last");
            String before = Hedges.state(hedge);
            CHECKS.badState("queueMessage(1)", () -> hedge.queueMessage(1));
            CHECKS.same(before, Hedges.state(hedge), "the hedge");
            CHECKS.same(4, Hedges.truncated(hedge, 4), "the length of the input buffer");
            CHECKS.badState("undo()", hedge::undo);
            CHECKS.same(1, hedge.queueMessage(0), "queueMessage(0) of the same word");
            CHECKS.same("last", Hedges.pending(hedge, 0), "queue 0");
        });
        CHECKS.test("promise 56: gardeners 0 and 1 alone, and the word stays in the buffer", () -> {
            HedgeMessages hedge = Hedges.put(eight(""), "word");
            CHECKS.gardenerOnly("queueMessage", hedge::queueMessage);
            CHECKS.same(4, Hedges.truncated(hedge, 4), "the length of the input buffer");
            CHECKS.badState("undo()", hedge::undo);
            CHECKS.same(1, hedge.queueMessage(1), "queueMessage(1)");
        });
        CHECKS.test("promise 56: refused calls leave all as it was", () -> {
            Witness witness = new Witness(CHECKS, eight("message 1 a;".repeat(8)));
            witness.refusesArgument("queueMessage(0) of a command", () -> witness.hedge.queueMessage(0));
            witness.refusesArgument("queueMessage(1) of a command", () -> witness.hedge.queueMessage(1));
            witness.refusesArgument("queueMessage(2)", () -> witness.hedge.queueMessage(2));
            witness.close();
        });
        CHECKS.test("promise 56: the word is looked at before the queue", () -> {
            HedgeMessages hedge = Hedges.put(eight("message 1 a;".repeat(8)), "w0rd");
            CHECKS.badArgument("queueMessage(1)", () -> hedge.queueMessage(1));
        });
        CHECKS.test("promise 56: without an action, on the other's day, and longer than the hedge", () -> {
            HedgeMessages hedge = Hedges.of("hedge 4 1 0 9 30 1;");
            hedge.plant(0, 'a');
            Hedges.put(hedge, "abcde");
            CHECKS.same(1, hedge.queueMessage(1), "queueMessage(1)");
            CHECKS.same(0, hedge.actionsLeft(), "actionsLeft()");
        });
        CHECKS.test("promise 56: a name of a statement or of a command is a word", () -> {
            word("hedge");
            word("plant");
        });
    }

    // ---- Promises 57 and 58 ----

    private static void cancelMessage() {
        String three = "message 0 abc;message 0 d;message 0 ef;message 1 uvwxyzuvwxyz;";
        CHECKS.test("promise 57: the first one", () -> {
            HedgeMessages hedge = eight(three);
            CHECKS.same(3, hedge.cancelMessage(0, 0), "cancelMessage(0, 0)");
            CHECKS.same("d ef", Hedges.pending(hedge, 0), "queue 0");
        });
        CHECKS.test("promise 57: one in between", () -> {
            HedgeMessages hedge = eight(three);
            CHECKS.same(1, hedge.cancelMessage(0, 1), "cancelMessage(0, 1)");
            CHECKS.same("abc ef", Hedges.pending(hedge, 0), "queue 0");
        });
        CHECKS.test("promise 57: the last one", () -> {
            HedgeMessages hedge = eight(three);
            CHECKS.same(2, hedge.cancelMessage(0, 2), "cancelMessage(0, 2)");
            CHECKS.same("abc d", Hedges.pending(hedge, 0), "queue 0");
        });
        CHECKS.test("promise 57: the only one, of 12 letters", () -> {
            HedgeMessages hedge = eight(three);
            CHECKS.same(12, hedge.cancelMessage(1, 0), "cancelMessage(1, 0)");
            CHECKS.same("", Hedges.pending(hedge, 1), "queue 1");
            CHECKS.same("abc d ef", Hedges.pending(hedge, 0), "queue 0");
        });
        CHECKS.test("promise 57: each of 8", () -> {
            String[] words = {"a", "bb", "c", "dd", "e", "ff", "g", "abcdefghijkl"};
            for (int message = 0; message < 8; message++) {
                HedgeMessages hedge = eight("message 0 " + String.join(";message 0 ", words) + ";");
                CHECKS.same(words[message].length(), hedge.cancelMessage(0, message), "cancelMessage(0, " + message + ")");
                java.util.List<String> due = new java.util.ArrayList<>(java.util.List.of(words));
                due.remove(message);
                CHECKS.same(String.join(" ", due), Hedges.pending(hedge, 0), "queue 0");
            }
        });
        CHECKS.test("promise 57: the eighth of 8", () -> {
            HedgeMessages hedge = eight("message 0 a;".repeat(7) + "message 0 bc;");
            CHECKS.same(2, hedge.cancelMessage(0, 7), "cancelMessage(0, 7)");
            CHECKS.same(7, hedge.pendingCount(0), "pendingCount(0)");
        });
        CHECKS.test("promise 57: no message before the first one and behind the last one", () -> {
            Witness witness = new Witness(CHECKS, eight(three));
            for (int message : new int[] {-1, 3, 7, 8, Integer.MIN_VALUE, Integer.MAX_VALUE}) {
                witness.refusesIndex("cancelMessage(0, " + message + ")", () -> witness.hedge.cancelMessage(0, message));
            }
            witness.refusesIndex("cancelMessage(1, 1)", () -> witness.hedge.cancelMessage(1, 1));
            witness.close();
        });
        CHECKS.test("promise 57: no message of an empty queue", () -> {
            Witness witness = new Witness(CHECKS, eight(""));
            witness.refusesIndex("cancelMessage(0, 0)", () -> witness.hedge.cancelMessage(0, 0));
            witness.refusesIndex("cancelMessage(1, 0)", () -> witness.hedge.cancelMessage(1, 0));
            witness.close();
        });
        CHECKS.test("promise 57: no message in progress and no posted message", () -> {
            HedgeMessages hedge = eight("message 0 a;message 0 bcd;");
            hedge.endDays(1);
            Witness witness = new Witness(CHECKS, hedge);
            witness.refusesIndex("cancelMessage(0, 0)", () -> witness.hedge.cancelMessage(0, 0));
            witness.close();
        });
        CHECKS.test("promise 57: gardeners 0 and 1 alone, looked at before the message", () -> {
            Witness witness = new Witness(CHECKS, eight(three));
            for (int gardener : new int[] {-1, 2, Integer.MIN_VALUE, Integer.MAX_VALUE}) {
                witness.refusesArgument("cancelMessage(" + gardener + ", 0)", () ->
                        witness.hedge.cancelMessage(gardener, 0));
                witness.refusesArgument("cancelMessage(" + gardener + ", -1)", () ->
                        witness.hedge.cancelMessage(gardener, -1));
            }
            witness.close();
        });
        CHECKS.test("promise 57: without an action and on the other's day", () -> {
            HedgeMessages hedge = Hedges.of("hedge 8 1 0 9 30 1;message 1 ab;");
            hedge.plant(0, 'a');
            CHECKS.same(2, hedge.cancelMessage(1, 0), "cancelMessage(1, 0)");
        });
        CHECKS.test("promise 57: there is room for another one then", () -> {
            HedgeMessages hedge = eight("message 0 a;message 0 bb;message 0 c;message 0 dd;message 0 e;message 0 ff;"
                    + "message 0 g;message 0 abcdefghijkl;");
            hedge.cancelMessage(0, 0);
            CHECKS.same(8, Hedges.queue(hedge, 0, "new"), "queueMessage(0)");
            CHECKS.same("bb c dd e ff g abcdefghijkl new", Hedges.pending(hedge, 0), "queue 0");
        });
    }

    private static void setWorkLimit() {
        CHECKS.test("promise 58: 1 and 12", () -> {
            HedgeMessages hedge = eight("");
            CHECKS.same(2, hedge.setWorkLimit(1), "setWorkLimit(1)");
            CHECKS.same(1, hedge.setWorkLimit(12), "setWorkLimit(12)");
            CHECKS.same(12, hedge.setWorkLimit(12), "setWorkLimit(12) again");
            CHECKS.same(12, hedge.workLimit(), "workLimit()");
        });
        CHECKS.test("promise 58: not 0 and not 13", () -> {
            Witness witness = new Witness(CHECKS, eight(""));
            for (int limit : new int[] {0, -1, 13, Integer.MIN_VALUE, Integer.MAX_VALUE}) {
                witness.refusesArgument("setWorkLimit(" + limit + ")", () -> witness.hedge.setWorkLimit(limit));
            }
            witness.close();
        });
        CHECKS.test("promise 58: the actions that are left today do not change", () -> {
            HedgeMessages hedge = eight("");
            hedge.setWorkLimit(12);
            CHECKS.same(2, hedge.actionsLeft(), "actionsLeft() with a greater limit");
            hedge.plant(0, 'a');
            hedge.setWorkLimit(1);
            CHECKS.same(1, hedge.actionsLeft(), "actionsLeft() with a smaller limit");
            hedge.plant(1, 'b');
            hedge.setWorkLimit(12);
            CHECKS.same(0, hedge.actionsLeft(), "actionsLeft() of none");
            CHECKS.badState("plant without actions", () -> hedge.plant(2, 'c'));
        });
        CHECKS.test("promise 58: the letters of today do not change", () -> {
            HedgeMessages hedge = eight("message 0 abcdef;");
            hedge.setWorkLimit(12);
            hedge.endDays(1);
            CHECKS.same(2, hedge.lettersWritten(0), "lettersWritten(0)");
        });
        CHECKS.test("promise 58: valid from the next day on", () -> {
            HedgeMessages hedge = eight("message 1 abcdef;");
            hedge.setWorkLimit(3);
            hedge.endDays(1);
            CHECKS.same(3, hedge.actionsLeft(), "actionsLeft()");
            hedge.endDays(1);
            CHECKS.same(3, hedge.lettersWritten(1), "lettersWritten(1)");
        });
        CHECKS.test("promise 58: it stays for all further days", () -> {
            HedgeMessages hedge = eight("");
            hedge.setWorkLimit(9);
            hedge.endDays(5);
            CHECKS.same(9, hedge.workLimit(), "workLimit()");
            CHECKS.same(9, hedge.actionsLeft(), "actionsLeft()");
        });
    }

    // ---- Promise 60 ----

    private static void undo() {
        CHECKS.test("promise 60: no operation to undo", () -> {
            HedgeMessages hedge = eight("twig 0 a 0 1;");
            String before = Hedges.state(hedge);
            CHECKS.badState("undo()", hedge::undo);
            CHECKS.same(before, Hedges.state(hedge), "the hedge");
        });
        CHECKS.test("promise 60: one operation", () -> {
            HedgeMessages hedge = eight("");
            hedge.setWorkLimit(5);
            CHECKS.same(0, hedge.undo(), "undo()");
            CHECKS.badState("undo() again", hedge::undo);
            CHECKS.same(2, hedge.workLimit(), "workLimit()");
        });
        CHECKS.test("promise 60: 8 operations", () -> {
            HedgeMessages hedge = eight("");
            for (int operation = 1; operation <= 8; operation++) {
                hedge.setWorkLimit(operation + 2);
            }
            for (int left = 7; left >= 0; left--) {
                CHECKS.same(left, hedge.undo(), "undo()");
                CHECKS.same(left + 2, hedge.workLimit(), "workLimit()");
            }
            CHECKS.badState("a ninth undo()", hedge::undo);
            CHECKS.same(2, hedge.workLimit(), "workLimit() after that");
        });
        CHECKS.test("promise 60: not the ninth from the end", () -> {
            for (int operations = 9; operations <= 30; operations++) {
                HedgeMessages hedge = Hedges.of("hedge 8 2 0 9 30 1;");
                for (int operation = 1; operation <= operations; operation++) {
                    hedge.endDays(1);
                }
                for (int left = 7; left >= 0; left--) {
                    CHECKS.same(left, hedge.undo(), "undo() of " + operations);
                    CHECKS.same(operations - 8 + left, hedge.day(), "day() after undo() of " + operations);
                }
                CHECKS.badState("a ninth undo()", hedge::undo);
                CHECKS.same(operations - 8, hedge.day(), "day() after a ninth undo()");
            }
        });
        CHECKS.test("promise 60: an operation after an undo takes its place", () -> {
            HedgeMessages hedge = eight("");
            for (int operation = 1; operation <= 8; operation++) {
                hedge.setWorkLimit(operation + 2);
            }
            hedge.undo();
            hedge.undo();
            hedge.setWorkLimit(1);
            CHECKS.same(6, hedge.undo(), "undo() of the new operation");
            CHECKS.same(8, hedge.workLimit(), "workLimit()");
            CHECKS.same(5, hedge.undo(), "undo() of the one before");
            CHECKS.same(7, hedge.workLimit(), "workLimit()");
        });
        CHECKS.test("promise 60: what was undone can't be undone again", () -> {
            HedgeMessages hedge = eight("");
            hedge.setWorkLimit(5);
            hedge.undo();
            CHECKS.badState("undo()", hedge::undo);
        });
        CHECKS.test("promise 60: nothing can be undone after load and restore", () -> {
            HedgeMessages hedge = eight("");
            hedge.setWorkLimit(5);
            Hedges.put(hedge, "hedge 4 1 0 9 30 1;").load();
            CHECKS.badState("undo() after load", hedge::undo);
            hedge.save();
            hedge.setWorkLimit(5);
            hedge.restore();
            CHECKS.badState("undo() after restore", hedge::undo);
            hedge.setWorkLimit(6);
            CHECKS.same(0, hedge.undo(), "undo() of an operation after that");
        });
        CHECKS.test("promise 60: load after an error keeps what can be undone", () -> {
            HedgeMessages hedge = eight("");
            hedge.setWorkLimit(5);
            CHECKS.badArgument("load() of nothing", hedge::load);
            CHECKS.same(0, hedge.undo(), "undo()");
            CHECKS.same(2, hedge.workLimit(), "workLimit()");
        });
        CHECKS.test("promise 60: what is no operation is not undone", () -> {
            HedgeMessages hedge = eight("");
            hedge.setWorkLimit(5);
            hedge.save();
            hedge.formatHedge();
            hedge.append(0, 0, 0, 0, 0);
            hedge.truncate(0);
            hedge.deliveredAfter(0, 60);
            CHECKS.same(0, hedge.undo(), "undo()");
            CHECKS.same(2, hedge.workLimit(), "workLimit()");
        });
        CHECKS.test("promise 60: an operation that changes nothing is undone, too", () -> {
            HedgeMessages hedge = eight("");
            hedge.setWorkLimit(5);
            hedge.setWorkLimit(5);
            CHECKS.same(1, hedge.undo(), "undo()");
            CHECKS.same(5, hedge.workLimit(), "workLimit()");
        });
        CHECKS.test("promise 60: the input buffer does not change", () -> {
            HedgeMessages hedge = Hedges.put(eight(""), "word");
            hedge.queueMessage(0);
            hedge.undo();
            CHECKS.same(0, Hedges.truncated(hedge, 0), "the length after undo of queueMessage");
            Hedges.put(hedge, "other");
            hedge.setWorkLimit(5);
            hedge.undo();
            CHECKS.same(5, Hedges.truncated(hedge, 5), "the length after undo of setWorkLimit");
            CHECKS.same(1, hedge.queueMessage(0), "queueMessage(0)");
            CHECKS.same("other", Hedges.pending(hedge, 0), "queue 0");
        });
        CHECKS.test("promise 60: error, output and saved state do not change", () -> {
            HedgeMessages hedge = eight("twig 0 a 0 1;");
            hedge.setWorkLimit(5);
            hedge.save();
            Hedges.put(hedge, "work 13;");
            CHECKS.badArgument("executeCommands()", hedge::executeCommands);
            hedge.remove(0);
            hedge.formatHedge();
            hedge.undo();
            hedge.undo();
            CHECKS.same(2, hedge.errorCode(), "errorCode()");
            CHECKS.same(5, hedge.errorPosition(), "errorPosition()");
            CHECKS.same("........", Hedges.lastOutput(hedge, 8), "the output");
            hedge.restore();
            CHECKS.same(5, hedge.workLimit(), "workLimit() of the saved state");
        });
    }

    private static void undoOfRefused() {
        CHECKS.test("promise 60: a refused operation is not undone", () -> {
            HedgeMessages hedge = eight("twig 0 a 1 1;nest 3 9;");
            hedge.setWorkLimit(5);
            CHECKS.badState("plant(0, a)", () -> hedge.plant(0, 'a'));
            CHECKS.badState("remove(0)", () -> hedge.remove(0));
            CHECKS.badState("trim(0, 1)", () -> hedge.trim(0, 1));
            CHECKS.badState("addNest(3, 1)", () -> hedge.addNest(3, 1));
            CHECKS.badArgument("queueMessage(0)", () -> hedge.queueMessage(0));
            CHECKS.badIndex("cancelMessage(0, 0)", () -> hedge.cancelMessage(0, 0));
            CHECKS.badArgument("setWorkLimit(0)", () -> hedge.setWorkLimit(0));
            CHECKS.badArgument("endDays(0)", () -> hedge.endDays(0));
            Hedges.put(hedge, "oops");
            CHECKS.badArgument("executeCommands()", hedge::executeCommands);
            CHECKS.same(0, hedge.undo(), "undo()");
            CHECKS.same(2, hedge.workLimit(), "workLimit()");
        });
        CHECKS.test("promise 60: a refused undo leaves all as it was", () -> {
            HedgeMessages hedge = Hedges.put(eight("twig 0 a 1 1;"), "word");
            hedge.save();
            String before = Hedges.state(hedge);
            String output = Hedges.picture(hedge);
            CHECKS.badState("undo()", hedge::undo);
            CHECKS.same(before, Hedges.state(hedge), "the hedge");
            CHECKS.same(output, Hedges.lastOutput(hedge, 8), "the output");
            CHECKS.same(4, Hedges.truncated(hedge, 4), "the length of the input buffer");
            CHECKS.same(0, hedge.restore(), "restore()");
        });
    }

    private static void undone(String name, java.util.function.Consumer<HedgeMessages> operation) {
        CHECKS.test("promise 60: " + name + " is undone", () -> {
            HedgeMessages hedge = Hedges.of("hedge 12 3 1 3 3 4;twig 7 q 0 4;twig 5 r 0 3;nest 9 3;message 0 abcd;"
                    + "message 0 e;message 1 xyz;");
            hedge.endDays(2);
            String before = Hedges.state(hedge);
            operation.accept(hedge);
            CHECKS.same(false, before.equals(Hedges.state(hedge)), "the operation changed nothing");
            CHECKS.same(1, hedge.undo(), "undo()");
            CHECKS.same(before, Hedges.state(hedge), "the hedge");
            hedge.endDays(3);
            HedgeMessages twin = Hedges.of("hedge 12 3 1 3 3 4;twig 7 q 0 4;twig 5 r 0 3;nest 9 3;message 0 abcd;"
                    + "message 0 e;message 1 xyz;");
            twin.endDays(5);
            CHECKS.same(Hedges.state(twin), Hedges.state(hedge), "the hedge three days later");
        });
    }

    private static void undoOfEach() {
        undone("plant", hedge -> hedge.plant(11, 'z'));
        undone("remove", hedge -> hedge.remove(7));
        undone("trim", hedge -> hedge.trim(7, 2));
        undone("addNest", hedge -> hedge.addNest(0, 30));
        undone("queueMessage", hedge -> Hedges.queue(hedge, 0, "word"));
        undone("cancelMessage", hedge -> hedge.cancelMessage(0, 0));
        undone("setWorkLimit", hedge -> hedge.setWorkLimit(12));
        undone("endDays of one day", hedge -> hedge.endDays(1));
        undone("endDays of 60 days", hedge -> hedge.endDays(60));
        undone("executeCommands", hedge -> Hedges.run(hedge, "plant 11 z;end 2;message 1 m;cancel 0 0;work 1;end 9;"));
    }

    // ---- Promises 61 and 62 ----

    private static void save() {
        CHECKS.test("promise 61: on the first day", () -> {
            HedgeMessages hedge = new HedgeMessages();
            CHECKS.same(0, hedge.save(), "save()");
            CHECKS.same(0, hedge.restore(), "restore()");
        });
        CHECKS.test("promise 61: on a later day", () -> {
            HedgeMessages hedge = new HedgeMessages();
            hedge.endDays(60);
            CHECKS.same(60, hedge.save(), "save()");
        });
        CHECKS.test("promise 61: a second state replaces the first", () -> {
            HedgeMessages hedge = new HedgeMessages();
            hedge.save();
            hedge.endDays(2);
            String before = Hedges.state(hedge);
            hedge.save();
            hedge.endDays(3);
            CHECKS.same(2, hedge.restore(), "restore()");
            CHECKS.same(before, Hedges.state(hedge), "the hedge");
        });
        CHECKS.test("promise 61: save changes nothing and is no operation", () -> {
            HedgeMessages hedge = new HedgeMessages();
            hedge.endDays(1);
            String before = Hedges.state(hedge);
            hedge.save();
            CHECKS.same(before, Hedges.state(hedge), "the hedge");
            CHECKS.same(0, hedge.undo(), "undo() of endDays");
            CHECKS.same(0, hedge.day(), "day()");
        });
        CHECKS.test("promise 61: later operations don't change the saved state", () -> {
            HedgeMessages hedge = new HedgeMessages();
            hedge.endDays(2);
            String before = Hedges.state(hedge);
            hedge.save();
            hedge.trim(2, 1);
            hedge.plant(0, 'x');
            hedge.addNest(0, 3);
            Hedges.queue(hedge, 1, "w");
            hedge.cancelMessage(1, 0);
            hedge.setWorkLimit(1);
            hedge.endDays(9);
            hedge.restore();
            CHECKS.same(before, Hedges.state(hedge), "the hedge");
        });
    }

    private static void restore() {
        CHECKS.test("promise 62: no saved state", () -> {
            HedgeMessages hedge = new HedgeMessages();
            hedge.setWorkLimit(5);
            String before = Hedges.state(hedge);
            CHECKS.badState("restore()", hedge::restore);
            CHECKS.same(before, Hedges.state(hedge), "the hedge");
            CHECKS.same(0, hedge.undo(), "undo()");
        });
        CHECKS.test("promise 62: the saved state is kept", () -> {
            HedgeMessages hedge = new HedgeMessages();
            hedge.endDays(1);
            hedge.save();
            String before = Hedges.state(hedge);
            for (int round = 0; round < 3; round++) {
                hedge.endDays(4);
                CHECKS.same(1, hedge.restore(), "restore()");
                CHECKS.same(before, Hedges.state(hedge), "the hedge");
            }
        });
        CHECKS.test("promise 62: the actions that were left are left again", () -> {
            HedgeMessages hedge = new HedgeMessages();
            hedge.plant(0, 'a');
            hedge.save();
            hedge.plant(1, 'b');
            hedge.restore();
            CHECKS.same(3, hedge.actionsLeft(), "actionsLeft()");
        });
        CHECKS.test("promise 62: nothing can be undone afterwards", () -> {
            HedgeMessages hedge = new HedgeMessages();
            hedge.setWorkLimit(5);
            hedge.save();
            hedge.setWorkLimit(6);
            hedge.restore();
            CHECKS.badState("undo()", hedge::undo);
            CHECKS.same(5, hedge.workLimit(), "workLimit()");
        });
        CHECKS.test("promise 62: a hedge of another size", () -> {
            HedgeMessages hedge = Hedges.of("hedge 40 1 0 9 30 1;twig 39 a 0 1;nest 20 9;");
            hedge.save();
            Hedges.put(hedge, "hedge 4 1 0 9 30 1;").load();
            hedge.restore();
            CHECKS.same(40, hedge.slotCount(), "slotCount()");
            CHECKS.same((int) 'a', hedge.letterAt(39), "letterAt(39)");
            CHECKS.same(9, hedge.nestDays(20), "nestDays(20)");
        });
        CHECKS.test("promise 62: input buffer, error and output are no part of it", () -> {
            HedgeMessages hedge = eight("twig 0 a 0 1;");
            hedge.save();
            Hedges.put(hedge, "work 13;");
            CHECKS.badArgument("executeCommands()", hedge::executeCommands);
            hedge.remove(0);
            hedge.formatHedge();
            Hedges.put(hedge, "word");
            hedge.restore();
            CHECKS.same(4, Hedges.truncated(hedge, 4), "the length of the input buffer");
            CHECKS.same(2, hedge.errorCode(), "errorCode()");
            CHECKS.same(5, hedge.errorPosition(), "errorPosition()");
            CHECKS.same("........", Hedges.lastOutput(hedge, 8), "the output");
        });
        CHECKS.test("promise 62: what was restored goes on as before", () -> {
            HedgeMessages hedge = new HedgeMessages();
            HedgeMessages twin = new HedgeMessages();
            hedge.endDays(3);
            twin.endDays(3);
            hedge.save();
            hedge.endDays(7);
            hedge.restore();
            hedge.endDays(20);
            twin.endDays(20);
            CHECKS.same(Hedges.state(twin), Hedges.state(hedge), "the hedge");
        });
    }

    // ---- Promises 63 and 64 ----

    private static void formatHedge() {
        CHECKS.test("promise 63: 4 slots and 40 slots", () -> {
            CHECKS.same(4, Hedges.of("hedge 4 1 0 9 30 1;").formatHedge(), "formatHedge() of 4");
            CHECKS.same(40, Hedges.of("hedge 40 1 0 9 30 1;").formatHedge(), "formatHedge() of 40");
        });
        CHECKS.test("promise 63: the letters a and z in lower and upper case", () -> CHECKS.same("azAZ", Hedges.picture(
                Hedges.of("hedge 4 1 0 9 30 1;twig 0 a 0 1;twig 1 z 0 1;twig 2 a 1 1;twig 3 z 1 1;")), "the output"));
        CHECKS.test("promise 63: a twig comes before a reserved slot and a nest", () -> {
            HedgeMessages hedge = Hedges.of("hedge 4 1 0 9 30 1;message 0 abc;");
            hedge.endDays(1);
            hedge.addNest(0, 9);
            CHECKS.same((int) 'a', first(hedge), "the first byte");
        });
        CHECKS.test("promise 63: a reserved slot comes before a nest", () -> {
            HedgeMessages hedge = Hedges.of("hedge 4 1 0 9 30 1;message 0 abc;");
            hedge.endDays(1);
            hedge.addNest(1, 9);
            hedge.addNest(3, 9);
            CHECKS.same("a==*", Hedges.picture(hedge), "the output");
        });
        CHECKS.test("promise 63: a full stop otherwise", () ->
                CHECKS.same("....", Hedges.picture(Hedges.of("hedge 4 1 0 9 30 1;")), "the output"));
        CHECKS.test("promise 63: a shorter output replaces a longer one", () -> {
            HedgeMessages hedge = new HedgeMessages();
            hedge.formatHedge();
            Hedges.put(hedge, "hedge 4 1 0 9 30 1;").load();
            hedge.formatHedge();
            CHECKS.same(HedgeMessages.NONE, hedge.outputByte(4), "outputByte(4)");
        });
        CHECKS.test("promise 63: the output stays until the next call", () -> {
            HedgeMessages hedge = eight("");
            hedge.formatHedge();
            hedge.plant(0, 'a');
            CHECKS.same(46, hedge.outputByte(0), "outputByte(0)");
        });
        CHECKS.test("promise 63: formatHedge is no operation", () -> {
            HedgeMessages hedge = eight("");
            hedge.formatHedge();
            CHECKS.badState("undo()", hedge::undo);
        });
    }

    private static int first(HedgeMessages hedge) {
        hedge.formatHedge();
        return hedge.outputByte(0);
    }

    private static void outputByte() {
        CHECKS.test("promise 64: no output yet", () -> {
            CHECKS.same(HedgeMessages.NONE, new HedgeMessages().outputByte(0), "outputByte(0)");
            CHECKS.same(HedgeMessages.NONE, new HedgeMessages().outputByte(-1), "outputByte(-1)");
        });
        CHECKS.test("promise 64: the first and the last byte", () -> {
            HedgeMessages hedge = Hedges.of("hedge 40 1 0 9 30 1;twig 0 a 0 1;twig 39 z 1 1;");
            hedge.formatHedge();
            CHECKS.same(97, hedge.outputByte(0), "outputByte(0)");
            CHECKS.same(90, hedge.outputByte(39), "outputByte(39)");
        });
        CHECKS.test("promise 64: no byte before the first one and behind the last one", () -> {
            HedgeMessages hedge = eight("");
            hedge.formatHedge();
            for (int index : new int[] {-1, 8, 39, 40, Integer.MIN_VALUE, Integer.MAX_VALUE}) {
                CHECKS.same(HedgeMessages.NONE, hedge.outputByte(index), "outputByte(" + index + ")");
            }
        });
        CHECKS.test("promise 64: every sign by its number", () -> {
            HedgeMessages hedge = Hedges.of("hedge 8 1 0 9 30 1;message 0 ab;nest 7 9;");
            hedge.endDays(1);
            hedge.formatHedge();
            CHECKS.same("97 61 46 42", hedge.outputByte(0) + " " + hedge.outputByte(1) + " " + hedge.outputByte(2) + " "
                    + hedge.outputByte(7), "the bytes");
        });
    }

    // ---- The number of calls ----

    private static void manyCalls() {
        CHECKS.test("promises 1 to 64: the 512th call of an object", () -> {
            HedgeMessages hedge = eight("");
            // The configuration took an append, a truncate and a load.
            for (int call = 4; call <= 509; call++) {
                hedge.setWorkLimit(1 + call % 12);
            }
            CHECKS.same(7, hedge.undo(), "undo(), call 510");
            CHECKS.same(6, hedge.undo(), "undo(), call 511");
            CHECKS.same(1 + 507 % 12, hedge.workLimit(), "workLimit(), call 512");
        });
        CHECKS.test("promises 1 to 64: 30 times 60 days again and again, up to the 512th call", () -> {
            HedgeMessages hedge = Hedges.of("hedge 40 12 9 99 30 40;twig 39 a 0 99;");
            int calls = 4;
            int days = 0;
            String text = "end 60;".repeat(30);
            while (calls + 13 <= 511) {
                CHECKS.same(30, Hedges.run(hedge, text), "executeCommands()");
                days += 1800;
                calls += 13;
            }
            CHECKS.same(days, hedge.day(), "day()");
        });
    }
}
