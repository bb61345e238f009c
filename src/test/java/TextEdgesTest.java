/** Promises 1 to 7: a test of its own for each sentence of the document that names a boundary case. */
public final class TextEdgesTest {
    private static final String HEAD = "hedge 16 4 2 5 3 4;";
    private static final int SPACES = 0x20202020;
    private static final Checks CHECKS = new Checks();

    private TextEdgesTest() {
    }

    public static void main(String[] args) {
        newObject();
        append();
        truncate();
        hedgeRanges();
        statementRanges();
        tokens();
        positions();
        severalErrors();
        conflictsAndLimits();
        load();
        commandRanges();
        commandTexts();
        commandEffects();
        commandExecution();
        errorCodeAndPosition();
        CHECKS.close();
    }

    // ---- Promise 1 ----

    private static void newObject() {
        CHECKS.test("promise 1: the numbers of the hedge statement", () -> {
            HedgeMessages hedge = new HedgeMessages();
            CHECKS.same(16, hedge.slotCount(), "slotCount()");
            CHECKS.same(4, hedge.workLimit(), "workLimit()");
            CHECKS.same(4, hedge.actionsLeft(), "actionsLeft()");
            CHECKS.same(3, hedge.daysUntilInspection(), "daysUntilInspection()");
            CHECKS.same("1 0 1 0", hedge.yardLetterCount(0) + " " + hedge.yardLetterCount(1) + " "
                    + hedge.yardLetterCount(2) + " " + hedge.yardLetterCount(3), "the yards of 4 slots");
            CHECKS.same(HedgeMessages.SHORT_ENOUGH, hedge.keepReason(2), "keepReason(2) at 3 cm");
            hedge.endDays(1);
            CHECKS.same(5, hedge.lengthAt(2), "lengthAt(2) after a day");
            CHECKS.same(HedgeMessages.SHORT_ENOUGH, hedge.keepReason(2), "keepReason(2) at 5 cm");
            hedge.endDays(1);
            CHECKS.same(6, hedge.trim(2, 1), "trim(2, 1) after two days");
            CHECKS.same(HedgeMessages.ALLOWED, hedge.keepReason(2), "keepReason(2) at 6 cm");
        });
        CHECKS.test("promise 1: the twigs and the nest", () -> {
            HedgeMessages hedge = new HedgeMessages();
            CHECKS.same("..q......R*.....", Hedges.picture(hedge), "the hedge");
            CHECKS.same(3, hedge.lengthAt(2), "lengthAt(2)");
            CHECKS.same(6, hedge.lengthAt(9), "lengthAt(9)");
            CHECKS.same(5, hedge.nestDays(10), "nestDays(10)");
            CHECKS.same(1, hedge.nestCount(), "nestCount()");
        });
        CHECKS.test("promise 1: the messages and the counters", () -> {
            HedgeMessages hedge = new HedgeMessages();
            CHECKS.same("hello no", Hedges.pending(hedge, 0), "queue 0");
            CHECKS.same("yes", Hedges.pending(hedge, 1), "queue 1");
            CHECKS.same(2, hedge.messagesQueued(0), "messagesQueued(0)");
            CHECKS.same(1, hedge.messagesQueued(1), "messagesQueued(1)");
            CHECKS.same(2, hedge.twigsPlanted(), "twigsPlanted()");
            CHECKS.same(0, hedge.twigsPruned() + hedge.twigsRemoved(), "pruned and removed");
            CHECKS.same(0, hedge.day(), "day()");
        });
        CHECKS.test("promise 1: the input buffer is empty", () -> {
            CHECKS.badArgument("truncate(1)", () -> new HedgeMessages().truncate(1));
            CHECKS.same(20, new HedgeMessages().append(0, 0, 0, 0, 0), "the first append");
        });
        CHECKS.test("promise 1: the output is empty", () ->
                CHECKS.same(HedgeMessages.NONE, new HedgeMessages().outputByte(0), "outputByte(0)"));
        CHECKS.test("promise 1: there is no saved state", () ->
                CHECKS.badState("restore()", () -> new HedgeMessages().restore()));
        CHECKS.test("promise 1: nothing can be undone", () ->
                CHECKS.badState("undo()", () -> new HedgeMessages().undo()));
        CHECKS.test("promise 1: two objects share nothing", () -> {
            HedgeMessages one = new HedgeMessages();
            HedgeMessages other = new HedgeMessages();
            String before = Hedges.state(other);
            one.plant(0, 'x');
            one.endDays(9);
            one.save();
            one.formatHedge();
            Hedges.put(one, "abc");
            CHECKS.same(before, Hedges.state(other), "the other object");
            CHECKS.same(0, Hedges.truncated(other, 0), "the other's input buffer");
            CHECKS.same(HedgeMessages.NONE, other.outputByte(0), "the other's output");
            CHECKS.badState("the other's restore()", other::restore);
            CHECKS.badState("the other's undo()", other::undo);
        });
    }

    // ---- Promises 2 and 3 ----

    /** An object with so many bytes in its buffer. */
    private static HedgeMessages filled(int length) {
        HedgeMessages hedge = new HedgeMessages();
        for (int bytes = 0; bytes < length; bytes += 20) {
            hedge.append(SPACES, SPACES, SPACES, SPACES, SPACES);
        }
        hedge.truncate(length);
        return hedge;
    }

    private static void append() {
        CHECKS.test("promise 2: each of the 20 bytes has its place", () -> {
            for (int place = 0; place < 20; place++) {
                int[] words = {SPACES, SPACES, SPACES, SPACES, SPACES};
                // A full stop instead of a space: the error is at its place.
                words[place / 4] ^= ('.' ^ ' ') << 24 - place % 4 * 8;
                HedgeMessages hedge = new HedgeMessages();
                hedge.append(words[0], words[1], words[2], words[3], words[4]);
                CHECKS.badArgument("executeCommands()", hedge::executeCommands);
                CHECKS.same(place, hedge.errorPosition(), "errorPosition() of a wrong byte " + place);
            }
        });
        CHECKS.test("promise 2: bytes from 128 on stay what they are", () -> {
            for (int high : new int[] {0x80, 0xA0, 0xE1, 0xFF}) {
                HedgeMessages hedge = new HedgeMessages();
                // "work 3" followed by the byte instead of a semicolon; 0xA0 is no space, 0xE1 no letter.
                hedge.append(0x776f726b, 0x20330000 | high << 8 | high, SPACES, SPACES, SPACES);
                CHECKS.badArgument("executeCommands() with byte " + high, hedge::executeCommands);
                CHECKS.same(1, hedge.errorCode(), "errorCode() of byte " + high);
                CHECKS.same(6, hedge.errorPosition(), "errorPosition() of byte " + high);
            }
        });
        CHECKS.test("promise 2: the new length is 20 more", () -> {
            HedgeMessages hedge = new HedgeMessages();
            CHECKS.same(20, hedge.append(1, 2, 3, 4, 5), "append to nothing");
            CHECKS.same(40, hedge.append(1, 2, 3, 4, 5), "append to 20 bytes");
            hedge.truncate(3);
            CHECKS.same(23, hedge.append(1, 2, 3, 4, 5), "append to 3 bytes");
        });
        CHECKS.test("promise 2: 780 bytes may become 800", () ->
                CHECKS.same(800, filled(780).append(0, 0, 0, 0, 0), "append to 780 bytes"));
        CHECKS.test("promise 2: 779 bytes may become 799", () ->
                CHECKS.same(799, filled(779).append(0, 0, 0, 0, 0), "append to 779 bytes"));
        CHECKS.test("promise 2: 781 bytes may not become 801", () ->
                CHECKS.badState("append to 781 bytes", () -> filled(781).append(0, 0, 0, 0, 0)));
        CHECKS.test("promise 2: 800 bytes may not become 820", () ->
                CHECKS.badState("append to 800 bytes", () -> filled(800).append(0, 0, 0, 0, 0)));
        CHECKS.test("promise 2: a refused append leaves all as it was", () -> {
            HedgeMessages hedge = filled(781);
            String before = Hedges.state(hedge);
            CHECKS.badState("append", () -> hedge.append(-1, -1, -1, -1, -1));
            CHECKS.same(781, Hedges.truncated(hedge, 781), "the length of the input buffer");
            CHECKS.same(0, hedge.executeCommands(), "781 spaces as commands");
            CHECKS.same(before, Hedges.state(hedge), "the hedge");
        });
        CHECKS.test("promise 2: append is no operation", () -> {
            HedgeMessages hedge = new HedgeMessages();
            hedge.append(0, 0, 0, 0, 0);
            CHECKS.badState("undo()", hedge::undo);
        });
        CHECKS.test("promise 2: after 800 bytes were read there is room for 800 again", () -> {
            HedgeMessages hedge = filled(800);
            hedge.executeCommands();
            CHECKS.same(20, hedge.append(0, 0, 0, 0, 0), "append");
        });
    }

    private static void truncate() {
        CHECKS.test("promise 3: to the current length", () ->
                CHECKS.same(7, filled(7).truncate(7), "truncate(7) of 7 bytes"));
        CHECKS.test("promise 3: not to one more than the current length", () ->
                CHECKS.badArgument("truncate(8) of 7 bytes", () -> filled(7).truncate(8)));
        CHECKS.test("promise 3: to one less than the current length", () ->
                CHECKS.same(6, filled(7).truncate(6), "truncate(6) of 7 bytes"));
        CHECKS.test("promise 3: to nothing", () -> {
            HedgeMessages hedge = filled(7);
            CHECKS.same(0, hedge.truncate(0), "truncate(0) of 7 bytes");
            CHECKS.badArgument("truncate(1) after that", () -> hedge.truncate(1));
        });
        CHECKS.test("promise 3: not to a negative length", () -> {
            CHECKS.badArgument("truncate(-1) of 7 bytes", () -> filled(7).truncate(-1));
            CHECKS.badArgument("truncate(MIN) of 7 bytes", () -> filled(7).truncate(Integer.MIN_VALUE));
            CHECKS.badArgument("truncate(-1) of nothing", () -> filled(0).truncate(-1));
        });
        CHECKS.test("promise 3: an empty buffer to 0 alone", () -> {
            CHECKS.same(0, filled(0).truncate(0), "truncate(0) of nothing");
            CHECKS.badArgument("truncate(1) of nothing", () -> filled(0).truncate(1));
        });
        CHECKS.test("promise 3: a full buffer to 800 and not to 801", () -> {
            CHECKS.same(800, filled(800).truncate(800), "truncate(800) of 800 bytes");
            CHECKS.badArgument("truncate(801) of 800 bytes", () -> filled(800).truncate(801));
            CHECKS.badArgument("truncate(MAX) of 800 bytes", () -> filled(800).truncate(Integer.MAX_VALUE));
        });
        CHECKS.test("promise 3: the first bytes stay", () -> {
            HedgeMessages hedge = Hedges.put(new HedgeMessages(), "abcdef");
            hedge.truncate(3);
            hedge.queueMessage(1);
            CHECKS.same("yes abc", Hedges.pending(hedge, 1), "queue 1");
        });
        CHECKS.test("promise 3: what was cut does not come back", () -> {
            HedgeMessages hedge = Hedges.put(new HedgeMessages(), "abcdef");
            hedge.truncate(3);
            CHECKS.badArgument("truncate(4)", () -> hedge.truncate(4));
            hedge.append(SPACES, 0, 0, 0, 0);
            hedge.truncate(4);
            CHECKS.badArgument("queueMessage of a word and a space", () -> hedge.queueMessage(1));
        });
        CHECKS.test("promise 3: a token that was cut ends where the text ends", () -> {
            // The bytes behind the new length are no longer part of the text, even if they go on with the token.
            HedgeMessages hedge = Hedges.put(new HedgeMessages(), "work 12;");
            hedge.truncate(6);
            refused(hedge, "executeCommands() of a cut number", hedge::executeCommands, 6);
            Hedges.put(hedge, "message 0 abcdef;").truncate(13);
            refused(hedge, "executeCommands() of a cut word", hedge::executeCommands, 13);
            Hedges.put(hedge, "hedge 16 4 2 5 3 40;").truncate(18);
            refused(hedge, "load() of a cut number", hedge::load, 18);
            Hedges.put(hedge, HEAD + "message 0 abcdef;").truncate(32);
            refused(hedge, "load() of a cut word", hedge::load, 32);
            Hedges.put(hedge, HEAD + "twig 1 a 0 1;").truncate(19);
            CHECKS.same(16, hedge.load(), "load() of a text that was cut between two statements");
            CHECKS.same(0, hedge.twigCount(), "twigCount()");
        });
        CHECKS.test("promise 3: a refused truncate leaves all as it was", () -> {
            Witness witness = new Witness(CHECKS, new HedgeMessages());
            witness.refusesArgument("truncate(9)", () -> witness.hedge.truncate(9));
            witness.refusesArgument("truncate(-1)", () -> witness.hedge.truncate(-1));
            witness.close();
        });
        CHECKS.test("promise 3: truncate is no operation", () -> {
            HedgeMessages hedge = filled(7);
            hedge.truncate(2);
            CHECKS.badState("undo()", hedge::undo);
        });
    }

    private static void refused(HedgeMessages hedge, String what, Runnable reading, int position) {
        CHECKS.badArgument(what, reading);
        CHECKS.same(HedgeMessages.SYNTAX_ERROR, hedge.errorCode(), "errorCode() after " + what);
        CHECKS.same(position, hedge.errorPosition(), "errorPosition() after " + what);
    }

    // ---- Promise 4: the ranges ----

    /** The text must be a correct configuration. */
    private static HedgeMessages right(String text) {
        HedgeMessages hedge = Hedges.put(new HedgeMessages(), text);
        try {
            hedge.load();
        } catch (IllegalArgumentException thrown) {
            CHECKS.same("no error", "code " + hedge.errorCode() + " at " + hedge.errorPosition(), text);
        }
        return hedge;
    }

    private static void wrong(int code, int position, String text) {
        HedgeMessages hedge = Hedges.put(new HedgeMessages(), text);
        CHECKS.badArgument("load() of " + text, hedge::load);
        CHECKS.same(code, hedge.errorCode(), "errorCode() of " + text);
        CHECKS.same(position, hedge.errorPosition(), "errorPosition() of " + text);
    }

    /** A number in the text between before and behind must be from low to high. */
    private static void range(String what, String before, int low, int high, String behind) {
        CHECKS.test("promise 4: " + what + " is at least " + low, () -> {
            right(before + low + behind);
            if (low > 0) {
                wrong(2, before.length(), before + (low - 1) + behind);
            } else {
                wrong(1, before.length(), before + "-1" + behind);
            }
        });
        CHECKS.test("promise 4: " + what + " is at most " + high, () -> {
            right(before + high + behind);
            wrong(2, before.length(), before + (high + 1) + behind);
            wrong(2, before.length(), before + "999" + behind);
        });
        CHECKS.test("promise 4: " + what + " has at most 3 digits", () -> {
            right(before + String.format("%03d", high) + behind);
            wrong(1, before.length(), before + String.format("%04d", high) + behind);
            wrong(1, before.length(), before + "1000" + behind);
        });
        CHECKS.test("promise 4: " + what + " is a number", () -> {
            wrong(1, before.length(), before + "a" + behind);
            wrong(1, before.length(), before + ";" + behind);
        });
    }

    private static void hedgeRanges() {
        range("the number of slots", "hedge ", 4, 40, " 4 2 5 3 4;");
        range("the work limit", "hedge 16 ", 1, 12, " 2 5 3 4;");
        range("the growth rate", "hedge 16 4 ", 0, 9, " 5 3 4;");
        range("the legal length", "hedge 16 4 2 ", 1, 99, " 3 4;");
        range("the inspection interval", "hedge 16 4 2 5 ", 1, 30, " 4;");
        range("the yard size", "hedge 16 4 2 5 3 ", 1, 40, ";");
        CHECKS.test("promise 4: a number of 20 digits is a syntax error", () ->
                wrong(1, 6, "hedge 00000000000000000016 4 2 5 3 4;"));
        CHECKS.test("promise 4: a number beyond an int is a syntax error", () -> {
            wrong(1, 6, "hedge 4294967312 4 2 5 3 4;");
            wrong(1, 6, "hedge 18446744073709551632 4 2 5 3 4;");
        });
        CHECKS.test("promise 4: the least hedge", () -> {
            HedgeMessages hedge = right("hedge 4 1 0 1 1 1;");
            CHECKS.same(4, hedge.slotCount(), "slotCount()");
            CHECKS.same(1, hedge.workLimit(), "workLimit()");
            CHECKS.same(1, hedge.daysUntilInspection(), "daysUntilInspection()");
        });
        CHECKS.test("promise 4: the greatest hedge", () -> {
            HedgeMessages hedge = right("hedge 40 12 9 99 30 40;twig 39 a 0 99;");
            CHECKS.same(40, hedge.slotCount(), "slotCount()");
            CHECKS.same(12, hedge.workLimit(), "workLimit()");
            CHECKS.same(30, hedge.daysUntilInspection(), "daysUntilInspection()");
            CHECKS.same(1, hedge.yardLetterCount(0), "yardLetterCount(0)");
            CHECKS.same(HedgeMessages.SHORT_ENOUGH, hedge.keepReason(39), "keepReason(39) at 99 cm");
            hedge.endDays(1);
            CHECKS.same(108, hedge.lengthAt(39), "lengthAt(39)");
        });
    }

    private static void statementRanges() {
        range("the slot of a twig", HEAD + "twig ", 0, 15, " a 0 1;");
        range("the slot of a twig in the least hedge", "hedge 4 1 0 1 1 1;twig ", 0, 3, " a 0 1;");
        range("the slot of a twig in the greatest hedge", "hedge 40 1 0 1 1 1;twig ", 0, 39, " a 0 1;");
        range("the owner", HEAD + "twig 3 a ", 0, 1, " 1;");
        range("the length", HEAD + "twig 3 a 0 ", 1, 99, ";");
        range("the slot of a nest", HEAD + "nest ", 0, 15, " 1;");
        range("the slot of a nest in the least hedge", "hedge 4 1 0 1 1 1;nest ", 0, 3, " 1;");
        range("the slot of a nest in the greatest hedge", "hedge 40 1 0 1 1 1;nest ", 0, 39, " 1;");
        range("the days of a nest", HEAD + "nest 3 ", 1, 30, ";");
        range("the sender", HEAD + "message ", 0, 1, " a;");
        CHECKS.test("promise 4: a letter from a to z", () -> {
            CHECKS.same((int) 'a', right(HEAD + "twig 3 a 0 1;").letterAt(3), "letterAt(3)");
            CHECKS.same((int) 'z', right(HEAD + "twig 3 z 0 1;").letterAt(3), "letterAt(3)");
            wrong(1, 26, HEAD + "twig 3 ` 0 1;");
            wrong(1, 26, HEAD + "twig 3 { 0 1;");
            wrong(1, 26, HEAD + "twig 3 A 0 1;");
        });
        CHECKS.test("promise 4: a letter alone, not two", () -> wrong(1, 26, HEAD + "twig 3 ab 0 1;"));
        CHECKS.test("promise 4: a letter, not a number", () -> wrong(1, 26, HEAD + "twig 3 4 0 1;"));
        CHECKS.test("promise 4: a letter, not nothing", () -> wrong(1, 26, HEAD + "twig 3 ;"));
        CHECKS.test("promise 4: a word of 1 letter", () ->
                CHECKS.same("a", Hedges.pending(right(HEAD + "message 0 a;"), 0), "queue 0"));
        CHECKS.test("promise 4: a word of 12 letters", () -> CHECKS.same("abcdefghijkl",
                Hedges.pending(right(HEAD + "message 1 abcdefghijkl;"), 1), "queue 1"));
        CHECKS.test("promise 4: a word of 13 letters is a syntax error", () ->
                wrong(1, 29, HEAD + "message 0 abcdefghijklm;"));
        CHECKS.test("promise 4: a word of no letter is a syntax error", () -> wrong(1, 29, HEAD + "message 0 ;"));
        CHECKS.test("promise 4: a word from a to z", () -> {
            CHECKS.same("az", Hedges.pending(right(HEAD + "message 0 az;"), 0), "queue 0");
            wrong(1, 29, HEAD + "message 0 `z;");
            wrong(1, 30, HEAD + "message 0 a{;");
        });
    }

    // ---- Promise 4: tokens and positions ----

    private static void tokens() {
        CHECKS.test("promise 4: spaces before and after each token", () -> {
            HedgeMessages hedge = right("   hedge   16  4  2  5  3  4  ;   twig  3  a  1  9  ;  message  0  ab  ;   ");
            CHECKS.same("...A............", Hedges.picture(hedge), "the hedge");
            CHECKS.same("ab", Hedges.pending(hedge, 0), "queue 0");
        });
        CHECKS.test("promise 4: no space where a word and a number meet", () -> {
            HedgeMessages hedge = right("hedge16 4 2 5 3 4;twig3a1 9;nest5 2;message0ab;");
            CHECKS.same("...A.*..........", Hedges.picture(hedge), "the hedge");
            CHECKS.same("ab", Hedges.pending(hedge, 0), "queue 0");
        });
        CHECKS.test("promise 4: two numbers without a space are one", () -> {
            wrong(2, 6, "hedge 164 2 5 3 4;");
            wrong(1, 30, HEAD + "twig 3 a 01;");
        });
        CHECKS.test("promise 4: two words without a space are one", () -> {
            wrong(1, 19, HEAD + "twigtwig 3 a 0 1;");
            wrong(1, 0, "hedgehedge 16 4 2 5 3 4;");
        });
        CHECKS.test("promise 4: a number within a word ends it", () -> wrong(1, 30, HEAD + "message 0 a1b;"));
        CHECKS.test("promise 4: a space within a number ends it", () -> wrong(1, 19, "hedge 16 1 2 2 5 3 4;"));
        CHECKS.test("promise 4: every byte within a word", () -> {
            for (int sign = 0; sign < 256; sign++) {
                String text = HEAD + "message 0 p" + (char) sign + "q;";
                if (sign >= 'a' && sign <= 'z') {
                    CHECKS.same("p" + (char) sign + "q", Hedges.pending(right(text), 0), "queue 0");
                } else {
                    // A space ends the word, a semicolon the statement; then the q is the wrong token.
                    wrong(1, sign == ' ' || sign == ';' ? 31 : 30, text);
                }
            }
        });
        CHECKS.test("promise 4: every byte within a number", () -> {
            for (int sign = 0; sign < 256; sign++) {
                String text = HEAD + "twig 3 a 0 1" + (char) sign + ";";
                if (sign >= '0' && sign <= '9') {
                    CHECKS.same(10 + sign - '0', right(text).lengthAt(3), "lengthAt(3)");
                } else if (sign == ' ') {
                    right(text);
                } else {
                    wrong(1, sign == ';' ? 32 : 31, text);
                }
            }
        });
        CHECKS.test("promise 4: every byte where a statement begins", () -> {
            for (int sign = 0; sign < 256; sign++) {
                if (sign == ' ') {
                    right(HEAD + " ");
                } else {
                    wrong(1, 19, HEAD + (char) sign);
                }
            }
        });
        CHECKS.test("promise 4: a name with another first or last letter, or one letter less or more", () -> {
            for (String name : new String[] {"kedge", "hedgf", "hedg", "hedges"}) {
                wrong(1, 0, name + " 16 4 2 5 3 4;");
            }
            for (String name : new String[] {"dwig", "twih", "twi", "twigs", "best", "ness", "nes", "nests", "lessage",
                "messagf", "messag", "messages"}) {
                wrong(1, 19, HEAD + name + " 0 a 0 1;");
            }
        });
        CHECKS.test("promise 4: the hedge statement comes first", () -> {
            wrong(1, 0, "twig 3 a 0 1;" + HEAD);
            wrong(1, 0, "nest 3 1;" + HEAD);
            wrong(1, 0, "message 0 a;" + HEAD);
        });
        CHECKS.test("promise 4: there is one hedge statement", () -> wrong(1, 19, HEAD + HEAD));
        CHECKS.test("promise 4: the hedge statement alone", () -> {
            HedgeMessages hedge = right(HEAD);
            CHECKS.same(0, hedge.twigCount() + hedge.nestCount() + hedge.pendingCount(0) + hedge.pendingCount(1),
                    "twigs, nests and messages");
        });
        CHECKS.test("promise 4: the other statements in any order", () -> {
            HedgeMessages hedge = right(HEAD + "message 0 a;nest 5 1;twig 3 b 0 1;nest 7 1;message 1 c;twig 9 d 1 1;");
            CHECKS.same("...b.*.*.D......", Hedges.picture(hedge), "the hedge");
        });
        CHECKS.test("promise 4: a statement's name is a word of the message", () ->
                CHECKS.same("hedge twig nest message", Hedges.pending(right(HEAD + "message 0 hedge;message 0 twig;"
                        + "message 0 nest;message 0 message;"), 0), "queue 0"));
        CHECKS.test("promise 4: an empty statement is a syntax error", () -> wrong(1, 19, HEAD + ";"));
        CHECKS.test("promise 4: a configuration of 800 bytes", () -> {
            HedgeMessages hedge = right(HEAD + " ".repeat(767) + "twig 15 z 0 9;");
            CHECKS.same(9, hedge.lengthAt(15), "lengthAt(15)");
            right(HEAD + " ".repeat(781));
            wrong(1, 800, "hedge 16 4 2 5 3 4" + " ".repeat(782));
            wrong(1, 799, HEAD + " ".repeat(780) + "?");
        });
    }

    private static void positions() {
        String[] tokens = ("hedge 16 4 2 5 3 4 ; twig 3 a 0 99 ; nest 15 30 ; message 1 abc ;").split(" ");
        CHECKS.test("promise 4: a text that ends too early has its error at its length", () -> {
            StringBuilder text = new StringBuilder();
            for (String token : tokens) {
                text.append(token);
                if (token.equals(";")) {
                    right(text.toString());
                } else {
                    wrong(1, text.length(), text.toString());
                }
                text.append(' ');
            }
        });
        CHECKS.test("promise 4: an empty text has its error at 0", () -> wrong(1, 0, ""));
        CHECKS.test("promise 4: a text of spaces has its error at its length", () -> {
            wrong(1, 1, " ");
            wrong(1, 800, " ".repeat(800));
        });
        CHECKS.test("promise 4: spaces at the end count to the length", () -> wrong(1, 22, "hedge 16 4 2 5 3 4    "));
        CHECKS.test("promise 4: the position is the first byte of the token", () -> {
            wrong(1, 19, HEAD + "twogs 1 a 0 1;");
            wrong(2, 26, HEAD + "  twig 100 a 0 1;");
            wrong(1, 26, HEAD + "  twig 1000 a 0 1;");
        });
        CHECKS.test("promise 4: an invalid byte is a token of its own", () -> wrong(1, 24, HEAD + "twig ??? a 0 1;"));
        CHECKS.test("promise 4: reading stops at the first error", () -> {
            wrong(2, 6, "hedge 41 0 10 100 31 41;");
            wrong(2, 24, HEAD + "twig 16 ab 2 0;");
            wrong(1, 26, HEAD + "twig 3 ab 2 0;");
            wrong(2, 28, HEAD + "twig 3 a 2 0;");
            wrong(2, 30, HEAD + "twig 3 a 0 0,");
            wrong(2, 6, "hedge 3");
        });
    }

    private static String nests(int count) {
        StringBuilder text = new StringBuilder();
        for (int nest = 0; nest < count; nest++) {
            text.append("nest ").append(nest).append(" 1;");
        }
        return text.toString();
    }

    private static void severalErrors() {
        CHECKS.test("promise 4: a slot with 4 digits that holds a twig is a syntax error", () ->
                wrong(1, 37, HEAD + "twig 3 a 0 1;twig 0003 b 0 1;"));
        CHECKS.test("promise 4: a slot that has a nest is a conflict, not a limit", () ->
                wrong(3, 19 + 54 + 5, HEAD + nests(6) + "nest 5 1;"));
        CHECKS.test("promise 4: a slot out of range is a range error, not a limit", () ->
                wrong(2, 19 + 54 + 5, HEAD + nests(6) + "nest 16 1;"));
        CHECKS.test("promise 4: a slot of 4 digits is a syntax error, not a limit", () ->
                wrong(1, 19 + 54 + 5, HEAD + nests(6) + "nest 0006 1;"));
        CHECKS.test("promise 4: a word that is too long is a syntax error, not a limit", () ->
                wrong(1, 19 + 96 + 10, HEAD + "message 0 a;".repeat(8) + "message 0 abcdefghijklm;"));
        CHECKS.test("promise 4: a sender out of range comes before a full queue", () ->
                wrong(2, 19 + 96 + 8, HEAD + "message 1 a;".repeat(8) + "message 2 a;"));
        CHECKS.test("promise 4: a number of 4 digits is a syntax error, not a range error", () ->
                wrong(1, 6, "hedge 4000 4 2 5 3 4;"));
    }

    private static void conflictsAndLimits() {
        CHECKS.test("promise 4: a twig where a twig is, is a conflict", () -> {
            wrong(3, 37, HEAD + "twig 0 a 0 1;twig 0 b 1 2;");
            wrong(3, 38, HEAD + "twig 15 a 0 1;twig 15");
        });
        CHECKS.test("promise 4: a nest where a nest is, is a conflict", () -> {
            wrong(3, 33, HEAD + "nest 0 1;nest 0 1;");
            wrong(3, 34, HEAD + "nest 15 1;nest 15 1;");
        });
        CHECKS.test("promise 4: a twig beside a twig is none", () ->
                CHECKS.same("abc", Hedges.picture(right(HEAD + "twig 1 b 0 1;twig 0 a 0 1;twig 2 c 0 1;"))
                        .substring(0, 3), "the hedge"));
        CHECKS.test("promise 4: a twig and a nest in one slot are none", () -> {
            HedgeMessages hedge = right(HEAD + "twig 1 b 0 1;nest 1 9;nest 2 9;twig 2 c 0 1;");
            CHECKS.same(".bc.............", Hedges.picture(hedge), "the hedge");
            CHECKS.same(2, hedge.nestCount(), "nestCount()");
        });
        CHECKS.test("promise 4: 6 nests", () -> CHECKS.same(6, right(HEAD + nests(6)).nestCount(), "nestCount()"));
        CHECKS.test("promise 4: the slot of a seventh nest is a limit error", () ->
                wrong(4, 19 + 54 + 5, HEAD + nests(7)));
        CHECKS.test("promise 4: a limit error comes before the days of the nest", () ->
                wrong(4, 19 + 54 + 5, HEAD + nests(6) + "nest 6 99;"));
        CHECKS.test("promise 4: 8 messages of a sender", () -> {
            CHECKS.same(8, right(HEAD + "message 0 a;".repeat(8)).pendingCount(0), "pendingCount(0)");
            CHECKS.same(8, right(HEAD + "message 1 a;".repeat(8)).pendingCount(1), "pendingCount(1)");
        });
        CHECKS.test("promise 4: the word of a ninth message is a limit error", () -> {
            wrong(4, 19 + 96 + 10, HEAD + "message 0 a;".repeat(9));
            wrong(4, 19 + 96 + 10, HEAD + "message 1 a;".repeat(9));
        });
        CHECKS.test("promise 4: 8 messages of each sender", () -> {
            HedgeMessages hedge = right(HEAD + "message 0 a;message 1 b;".repeat(8));
            CHECKS.same(16, hedge.pendingCount(0) + hedge.pendingCount(1), "both queues");
            wrong(4, 19 + 192 + 10, HEAD + "message 0 a;message 1 b;".repeat(8) + "message 1 c;");
        });
        CHECKS.test("promise 4: a twig in each of 40 slots", () -> {
            StringBuilder text = new StringBuilder("hedge 40 1 0 1 1 1;");
            for (int slot = 0; slot < 40; slot++) {
                text.append("twig ").append(slot).append(" a 0 1;");
            }
            CHECKS.same(40, right(text.toString()).twigCount(), "twigCount()");
        });
    }

    // ---- Promise 4: what load does ----

    private static void load() {
        CHECKS.test("promise 4: load answers the number of slots", () -> {
            CHECKS.same(4, Hedges.put(new HedgeMessages(), "hedge 4 1 0 1 1 1;").load(), "load() of 4 slots");
            CHECKS.same(40, Hedges.put(new HedgeMessages(), "hedge 40 1 0 1 1 1;").load(), "load() of 40 slots");
        });
        CHECKS.test("promise 4: the input buffer is empty after load", () ->
                CHECKS.same(0, Hedges.truncated(right(HEAD), 0), "the length"));
        CHECKS.test("promise 4: the input buffer is empty after an error", () -> {
            HedgeMessages hedge = Hedges.put(new HedgeMessages(), HEAD + "?");
            CHECKS.badArgument("load()", hedge::load);
            CHECKS.same(0, Hedges.truncated(hedge, 0), "the length");
        });
        CHECKS.test("promise 4: the day is 0 and the first day has all its actions", () -> {
            HedgeMessages hedge = new HedgeMessages();
            hedge.endDays(3);
            hedge.plant(0, 'a');
            Hedges.put(hedge, HEAD).load();
            CHECKS.same(0, hedge.day(), "day()");
            CHECKS.same(0, hedge.activeGardener(), "activeGardener()");
            CHECKS.same(4, hedge.actionsLeft(), "actionsLeft()");
        });
        CHECKS.test("promise 4: nothing can be undone after load", () -> {
            HedgeMessages hedge = new HedgeMessages();
            hedge.endDays(1);
            Hedges.put(hedge, HEAD).load();
            CHECKS.badState("undo()", hedge::undo);
        });
        CHECKS.test("promise 4: nothing of the hedge before is left", () -> {
            String wide = "hedge 40 12 1 99 30 1;";
            HedgeMessages hedge = right(wide + "twig 0 a 0 1;twig 39 b 1 1;nest 16 9;nest 3 9;message 0 abc;"
                    + "message 1 defghijkl;message 0 ghijklmnopq;message 1 m;");
            hedge.endDays(2);
            Hedges.queue(hedge, 0, "r");
            hedge.cancelMessage(0, hedge.pendingCount(0) - 1);
            hedge.pendingAfter(0, 1);
            Hedges.put(hedge, HEAD).load();
            CHECKS.same(Hedges.state(right(HEAD)), Hedges.state(hedge), "the hedge");
            CHECKS.same(0, hedge.nestCount(), "nestCount()");
            CHECKS.same(false, hedge.isProtected(15), "isProtected(15) beside a nest that was in slot 16");
            Hedges.put(hedge, wide).load();
            CHECKS.same(Hedges.state(right(wide)), Hedges.state(hedge), "the hedge of 40 slots again");
        });
        CHECKS.test("promise 4: nothing of a forecast is left", () -> {
            HedgeMessages hedge = right("hedge 40 3 9 5 4 1;twig 0 a 0 9;twig 39 b 1 9;message 0 abcde;message 1 fgh;"
                    + "message 0 i;message 1 jklmnopq;message 0 r;");
            hedge.cancelMessage(0, 2);
            for (int days = 1; days <= 12; days++) {
                hedge.save();
                hedge.pendingAfter(0, days);
                Hedges.put(hedge, HEAD).load();
                CHECKS.same(Hedges.state(right(HEAD)), Hedges.state(hedge), "the hedge after " + days + " days");
                CHECKS.same(16, hedge.longestFreeRun(), "longestFreeRun() after " + days + " days");
                hedge.restore();
            }
        });
        CHECKS.test("promise 4: the output stays", () -> {
            HedgeMessages hedge = new HedgeMessages();
            String output = Hedges.picture(hedge);
            Hedges.put(hedge, "hedge 4 1 0 1 1 1;").load();
            CHECKS.same(output, Hedges.lastOutput(hedge, 16), "the output");
            CHECKS.same(HedgeMessages.NONE, hedge.outputByte(16), "outputByte(16)");
        });
        CHECKS.test("promise 4: the saved state stays", () -> {
            HedgeMessages hedge = new HedgeMessages();
            hedge.endDays(5);
            String before = Hedges.state(hedge);
            hedge.save();
            Hedges.put(hedge, "hedge 4 1 0 1 1 1;").load();
            CHECKS.same(5, hedge.restore(), "restore()");
            CHECKS.same(before, Hedges.state(hedge), "the restored hedge");
        });
        CHECKS.test("promise 4: load makes no saved state", () ->
                CHECKS.badState("restore()", () -> right(HEAD).restore()));
        CHECKS.test("promise 4: a text with an error changes nothing else", () -> {
            HedgeMessages hedge = new HedgeMessages();
            hedge.endDays(1);
            Witness witness = new Witness(CHECKS, hedge);
            witness.refusesConfiguration("", 1, 0);
            witness.refusesConfiguration("hedge 4 1 0 1 1 1", 1, 17);
            witness.refusesConfiguration(HEAD + "twig 3 a 0 1;nest 3 1;message 0 abc;message 0 ?", 1, 65);
            witness.refusesConfiguration(HEAD + "twig 16 a 0 1;", 2, 24);
            witness.refusesConfiguration(HEAD + "nest 3 1;nest 3 1;", 3, 33);
            witness.refusesConfiguration(HEAD + nests(7), 4, 78);
            witness.close();
        });
        CHECKS.test("promise 4: a second error replaces the first", () -> {
            HedgeMessages hedge = Hedges.put(new HedgeMessages(), HEAD + "nest 3 1;nest 3 1;");
            CHECKS.badArgument("load()", hedge::load);
            CHECKS.badArgument("load() of nothing", hedge::load);
            CHECKS.same(1, hedge.errorCode(), "errorCode()");
            CHECKS.same(0, hedge.errorPosition(), "errorPosition()");
        });
        CHECKS.test("promise 4: load is no operation", () -> {
            HedgeMessages hedge = right(HEAD);
            CHECKS.badState("undo()", hedge::undo);
        });
    }

    // ---- Promise 5 ----

    private static int rightCommands(String text) {
        HedgeMessages hedge = Hedges.put(new HedgeMessages(), text);
        try {
            return hedge.executeCommands();
        } catch (IllegalArgumentException thrown) {
            CHECKS.same("no error", "code " + hedge.errorCode() + " at " + hedge.errorPosition(), text);
            return -1;
        }
    }

    private static void wrongCommands(int code, int position, String text) {
        HedgeMessages hedge = Hedges.put(new HedgeMessages(), text);
        CHECKS.badArgument("executeCommands() of " + text, hedge::executeCommands);
        CHECKS.same(code, hedge.errorCode(), "errorCode() of " + text);
        CHECKS.same(position, hedge.errorPosition(), "errorPosition() of " + text);
    }

    private static void commandRange(String what, String before, int low, int high, String behind) {
        CHECKS.test("promise 5: " + what + " is at least " + low, () -> {
            rightCommands(before + low + behind);
            if (low > 0) {
                wrongCommands(2, before.length(), before + (low - 1) + behind);
            } else {
                wrongCommands(1, before.length(), before + "-1" + behind);
            }
        });
        CHECKS.test("promise 5: " + what + " is at most " + high, () -> {
            rightCommands(before + high + behind);
            wrongCommands(2, before.length(), before + (high + 1) + behind);
            wrongCommands(2, before.length(), before + "999" + behind);
        });
        CHECKS.test("promise 5: " + what + " has at most 3 digits", () -> {
            rightCommands(before + String.format("%03d", high) + behind);
            wrongCommands(1, before.length(), before + String.format("%04d", high) + behind);
        });
        CHECKS.test("promise 5: " + what + " is a number", () -> wrongCommands(1, before.length(), before + "a" + behind));
    }

    private static void commandRanges() {
        commandRange("the slot of plant", "plant ", 0, 39, " a;");
        commandRange("the slot of remove", "remove ", 0, 39, ";");
        commandRange("the slot of trim", "trim ", 0, 39, " 1;");
        commandRange("the centimetres of trim", "trim 2 ", 1, 99, ";");
        commandRange("the slot of nest", "nest ", 0, 39, " 1;");
        commandRange("the days of nest", "nest 3 ", 1, 30, ";");
        commandRange("the sender of message", "message ", 0, 1, " a;");
        commandRange("the sender of cancel", "cancel ", 0, 1, " 0;");
        commandRange("the index of cancel", "cancel 0 ", 0, 7, ";");
        commandRange("the limit of work", "work ", 1, 12, ";");
        commandRange("the days of end", "end ", 1, 60, ";");
        CHECKS.test("promise 5: plant takes a single letter", () -> {
            CHECKS.same(1, rightCommands("plant 0 a;"), "plant 0 a;");
            CHECKS.same(1, rightCommands("plant 0 z;"), "plant 0 z;");
            wrongCommands(1, 8, "plant 0 ab;");
            wrongCommands(1, 8, "plant 0 1;");
            wrongCommands(1, 8, "plant 0 A;");
            wrongCommands(1, 7, "plant 0;");
        });
        CHECKS.test("promise 5: message takes a word of 1 to 12 letters", () -> {
            CHECKS.same(1, rightCommands("message 0 a;"), "a word of 1 letter");
            CHECKS.same(1, rightCommands("message 0 abcdefghijkl;"), "a word of 12 letters");
            wrongCommands(1, 10, "message 0 abcdefghijklm;");
            wrongCommands(1, 9, "message 0;");
        });
        CHECKS.test("promise 5: the slots of a command don't depend on the hedge", () -> {
            HedgeMessages hedge = Hedges.of("hedge 4 1 0 1 1 1;");
            CHECKS.same(0, Hedges.run(hedge, "plant 39 a;"), "plant 39 a;");
            CHECKS.same(0, hedge.errorCode(), "errorCode()");
        });
        CHECKS.test("promise 5: the index of cancel doesn't depend on the queue", () -> {
            HedgeMessages hedge = Hedges.of("hedge 4 1 0 1 1 1;");
            CHECKS.same(0, Hedges.run(hedge, "cancel 0 7;"), "cancel 0 7;");
            CHECKS.same(0, hedge.errorCode(), "errorCode()");
        });
    }

    private static void commandTexts() {
        String thirty = "work 3;".repeat(30);
        CHECKS.test("promise 5: no command", () -> {
            CHECKS.same(0, rightCommands(""), "an empty text");
            CHECKS.same(0, rightCommands(" ".repeat(800)), "800 spaces");
        });
        CHECKS.test("promise 5: 30 commands", () -> CHECKS.same(30, rightCommands(thirty), "30 commands"));
        CHECKS.test("promise 5: the name of a 31st command is a limit error", () -> {
            for (String name : new String[] {"plant", "remove", "trim", "nest", "message", "cancel", "work", "end"}) {
                wrongCommands(4, 212, thirty + "  " + name);
            }
            wrongCommands(4, 210, thirty + "work 99;");
        });
        CHECKS.test("promise 5: another first word of a 31st command is a syntax error", () -> {
            for (String word : new String[] {"hedge", "twig", "works", "plan", "x"}) {
                wrongCommands(1, 211, thirty + " " + word + " 1;");
            }
        });
        CHECKS.test("promise 5: what is no word behind 30 commands is a syntax error", () -> {
            wrongCommands(1, 210, thirty + "1");
            wrongCommands(1, 210, thirty + ";");
            wrongCommands(1, 210, thirty + "?");
        });
        CHECKS.test("promise 5: an error before the 31st command is told first", () ->
                wrongCommands(2, 208, "work 3;".repeat(29) + "work 0;work 3;"));
        CHECKS.test("promise 5: a semicolon follows each command", () -> {
            wrongCommands(1, 6, "work 3");
            wrongCommands(1, 9, "work 3   ");
            wrongCommands(1, 7, "work 3 work 4;");
            wrongCommands(1, 7, "work 3;;");
        });
        CHECKS.test("promise 5: a text that ends too early has its error at its length", () -> {
            for (String text : new String[] {"plant", "plant 3", "plant 3 a", "remove", "remove 3", "trim", "trim 3",
                "trim 3 4", "nest", "nest 3", "nest 3 4", "message", "message 0", "message 0 ab", "cancel", "cancel 0",
                "cancel 0 1", "work", "work 3", "end", "end 3"}) {
                wrongCommands(1, text.length(), text);
                wrongCommands(1, text.length() + 2, text + "  ");
                wrongCommands(1, text.length() + 7, "work 3;" + text);
            }
        });
        CHECKS.test("promise 5: a configuration's statement is no command", () -> {
            wrongCommands(1, 0, HEAD);
            wrongCommands(1, 0, "twig 3 a 0 1;");
        });
        CHECKS.test("promise 5: a command is no configuration's statement", () -> {
            for (String name : new String[] {"plant", "remove", "trim", "cancel", "work", "end"}) {
                wrong(1, 19, HEAD + name + " 1;");
            }
        });
        CHECKS.test("promise 5: every byte where a command begins", () -> {
            for (int sign = 0; sign < 256; sign++) {
                if (sign == ' ') {
                    CHECKS.same(1, rightCommands("work 3; "), "a space");
                } else {
                    wrongCommands(1, 7, "work 3;" + (char) sign);
                }
            }
        });
        CHECKS.test("promise 5: reading stops at the first error", () -> {
            wrongCommands(2, 5, "work 0;works;");
            wrongCommands(2, 6, "plant 40 ab;");
            wrongCommands(1, 8, "plant 0 ab");
        });
        CHECKS.test("promise 5: spaces only where two words or numbers meet", () ->
                CHECKS.same(4, rightCommands("plant0z;trim2 1;message0ab;end1;"), "four commands"));
        CHECKS.test("promise 5: a text with an error changes nothing else", () -> {
            HedgeMessages hedge = new HedgeMessages();
            hedge.endDays(1);
            Witness witness = new Witness(CHECKS, hedge);
            witness.refusesCommands("plant 0 z;nest 3 1;message 0 abc;work 12;end 3;cancel 0 0;oops", 1, 58);
            witness.refusesCommands("work 3;work 13;", 2, 12);
            witness.refusesCommands(thirty + "end 1;", 4, 210);
            witness.close();
        });
    }

    /** Of the two commands the first must be executed and the second must stop the text. */
    private static void stops(String what, HedgeMessages hedge, String command) {
        CHECKS.same(1, Hedges.run(hedge, "work 11;" + command + "work 10;"), what);
        CHECKS.same(11, hedge.workLimit(), "workLimit() after " + what);
        CHECKS.same(0, hedge.errorCode(), "errorCode() after " + what);
        CHECKS.same(HedgeMessages.NONE, hedge.errorPosition(), "errorPosition() after " + what);
    }

    /** The command must do just what the call does. */
    private static void does(String command, java.util.function.Consumer<HedgeMessages> call) {
        CHECKS.test("promise 5: " + command + " does what its method does", () -> {
            String configuration = "hedge 40 3 2 9 4 5;twig 0 a 0 9;twig 39 b 0 9;message 0 abc;message 0 defg;"
                    + "message 1 hi;message 1 jk;";
            HedgeMessages hedge = Hedges.of(configuration);
            HedgeMessages twin = Hedges.of(configuration);
            CHECKS.same(1, Hedges.run(hedge, command), command);
            call.accept(twin);
            CHECKS.same(Hedges.state(twin), Hedges.state(hedge), "the hedge");
        });
    }

    private static void commandEffects() {
        does("plant 1 a;", hedge -> hedge.plant(1, 'a'));
        does("plant 38 z;", hedge -> hedge.plant(38, 'z'));
        does("remove 0;", hedge -> hedge.remove(0));
        does("remove 39;", hedge -> hedge.remove(39));
        does("trim 0 1;", hedge -> hedge.trim(0, 1));
        does("trim 39 99;", hedge -> hedge.trim(39, 99));
        does("nest 0 1;", hedge -> hedge.addNest(0, 1));
        does("nest 39 30;", hedge -> hedge.addNest(39, 30));
        does("message 0 a;", hedge -> Hedges.queue(hedge, 0, "a"));
        does("message 1 abcdefghijkl;", hedge -> Hedges.queue(hedge, 1, "abcdefghijkl"));
        does("cancel 0 0;", hedge -> hedge.cancelMessage(0, 0));
        does("cancel 1 1;", hedge -> hedge.cancelMessage(1, 1));
        does("work 1;", hedge -> hedge.setWorkLimit(1));
        does("work 12;", hedge -> hedge.setWorkLimit(12));
        does("end 1;", hedge -> hedge.endDays(1));
        does("end 60;", hedge -> hedge.endDays(60));
        CHECKS.test("promise 5: several words, each its own", () -> {
            HedgeMessages hedge = Hedges.of(HEAD);
            Hedges.run(hedge, "message 0 ab;message 1 end;message 0 message;message 0 abcdefghijkl;");
            CHECKS.same("ab message abcdefghijkl", Hedges.pending(hedge, 0), "queue 0");
            CHECKS.same("end", Hedges.pending(hedge, 1), "queue 1");
        });
        CHECKS.test("promise 5: the commands of an earlier text are gone", () -> {
            HedgeMessages hedge = Hedges.of(HEAD);
            Hedges.run(hedge, "work 3;work 5;");
            hedge.setWorkLimit(9);
            CHECKS.same(0, Hedges.run(hedge, ""), "no command");
            CHECKS.same(9, hedge.workLimit(), "workLimit()");
            CHECKS.same(1, Hedges.run(hedge, "end 1;"), "one command");
            CHECKS.same(9, hedge.workLimit(), "workLimit() after that");
        });
        CHECKS.test("promise 5: a name with another first or last letter, or one letter less or more", () -> {
            for (String name : new String[] {"slant", "plans", "plan", "plants", "demove", "removd", "remov", "removes",
                "grim", "trin", "tri", "trims", "best", "ness", "nes", "nests", "lessage", "messagf", "messag", "messages",
                "dancel", "cancek", "cance", "cancels", "fork", "worm", "wor", "works", "and", "ene", "en", "ends"}) {
                wrongCommands(1, 0, name + " 1 1;");
            }
        });
    }

    private static void commandExecution() {
        CHECKS.test("promise 5: a slot beyond the hedge stops it", () -> {
            for (String command : new String[] {"plant 4 a;", "remove 4;", "trim 4 1;", "nest 4 1;", "plant 39 a;"}) {
                stops(command, Hedges.of("hedge 4 1 0 9 30 1;"), command);
            }
        });
        CHECKS.test("promise 5: the last slot of the hedge does not", () -> CHECKS.same(4, Hedges.run(
                Hedges.of("hedge 4 3 0 9 30 1;"), "plant 3 a;trim 3 1;remove 3;nest 3 1;"), "four commands"));
        CHECKS.test("promise 5: no action left stops it", () -> {
            for (String command : new String[] {"plant 1 b;", "remove 0;", "trim 0 1;"}) {
                stops(command, tired(), command);
            }
        });
        CHECKS.test("promise 5: what takes no action goes on without one", () -> CHECKS.same(5, Hedges.run(tired(),
                "nest 1 1;message 0 a;cancel 0 0;work 3;end 1;"), "five commands"));
        CHECKS.test("promise 5: what has a reason against it stops it", () -> {
            String configuration = "hedge 8 9 0 9 30 1;twig 0 a 0 5;twig 2 b 1 5;twig 4 c 0 5;nest 5 9;";
            for (String command : new String[] {"plant 0 z;", "plant 5 z;", "remove 1;", "remove 2;", "remove 4;",
                "trim 1 1;", "trim 2 1;", "trim 4 1;", "nest 5 1;"}) {
                stops(command, Hedges.of(configuration), command);
            }
        });
        CHECKS.test("promise 5: a seventh nest stops it", () ->
                stops("a seventh nest", Hedges.of(HEAD + nests(6)), "nest 9 1;"));
        CHECKS.test("promise 5: a ninth message stops it", () -> {
            HedgeMessages hedge = Hedges.of(HEAD + "message 0 a;".repeat(8));
            stops("a ninth message", hedge, "message 0 b;");
            CHECKS.same(1, Hedges.run(hedge, "message 1 b;"), "a first message of the other");
        });
        CHECKS.test("promise 5: a message that is not there stops it", () -> {
            stops("cancel 0 0;", Hedges.of(HEAD), "cancel 0 0;");
            stops("cancel 1 2;", Hedges.of(HEAD + "message 1 a;message 1 b;"), "cancel 1 2;");
        });
        CHECKS.test("promise 5: the last message that is there does not", () ->
                CHECKS.same(1, Hedges.run(Hedges.of(HEAD + "message 1 a;message 1 b;"), "cancel 1 1;"), "cancel 1 1;"));
        CHECKS.test("promise 5: a first command that stops it leaves 0", () -> {
            HedgeMessages hedge = Hedges.of(HEAD);
            String before = Hedges.state(hedge);
            CHECKS.same(0, Hedges.run(hedge, "remove 0;work 9;"), "executeCommands()");
            CHECKS.same(before, Hedges.state(hedge), "the hedge");
        });
        CHECKS.test("promise 5: the last of 30 commands may stop it", () ->
                CHECKS.same(29, rightCommands("work 3;".repeat(29) + "remove 0;"), "executeCommands()"));
        CHECKS.test("promise 5: the last of 30 commands may be any of them", () -> {
            CHECKS.same((int) 'y', last("plant 5 y;").letterAt(5), "letterAt(5) after plant");
            CHECKS.same(0, last("remove 2;").lengthAt(2), "lengthAt(2) after remove");
            CHECKS.same(1, last("trim 2 2;").lengthAt(2), "lengthAt(2) after trim");
            CHECKS.same(9, last("nest 7 9;").nestDays(7), "nestDays(7) after nest");
            CHECKS.same("yes abcdefghijkl", Hedges.pending(last("message 1 abcdefghijkl;"), 1), "queue 1 after message");
            CHECKS.same("hello", Hedges.pending(last("cancel 0 1;"), 0), "queue 0 after cancel");
            CHECKS.same(7, last("work 7;").workLimit(), "workLimit() after work");
            CHECKS.same(5, last("end 5;").day(), "day() after end");
        });
        CHECKS.test("promise 5: all commands are undone at once", () -> {
            HedgeMessages hedge = new HedgeMessages();
            String before = Hedges.state(hedge);
            Hedges.run(hedge, "plant 0 z;end 3;message 0 a;work 9;nest 5 5;remove 39;");
            CHECKS.same(0, hedge.undo(), "undo()");
            CHECKS.same(before, Hedges.state(hedge), "the hedge");
        });
        CHECKS.test("promise 5: no executed command is an operation, too", () -> {
            HedgeMessages hedge = new HedgeMessages();
            hedge.endDays(1);
            Hedges.run(hedge, "remove 0;");
            Hedges.run(hedge, "");
            CHECKS.same(2, hedge.undo(), "undo() of no command");
            CHECKS.same(1, hedge.undo(), "undo() of a command that was not executed");
            CHECKS.same(1, hedge.day(), "day()");
            CHECKS.same(0, hedge.undo(), "undo() of endDays");
        });
        CHECKS.test("promise 5: the input buffer is empty afterwards", () -> {
            HedgeMessages hedge = new HedgeMessages();
            Hedges.run(hedge, "work 3;remove 0;");
            CHECKS.same(0, Hedges.truncated(hedge, 0), "the length after a command that stopped it");
            Hedges.run(hedge, "message 0 ab;");
            CHECKS.same(0, Hedges.truncated(hedge, 0), "the length after message");
            Hedges.put(hedge, "oops");
            CHECKS.badArgument("executeCommands()", hedge::executeCommands);
            CHECKS.same(0, Hedges.truncated(hedge, 0), "the length after an error");
        });
        CHECKS.test("promise 5: output and saved state stay", () -> {
            HedgeMessages hedge = new HedgeMessages();
            hedge.save();
            String output = Hedges.picture(hedge);
            Hedges.run(hedge, "plant 0 z;end 4;");
            CHECKS.same(output, Hedges.lastOutput(hedge, 16), "the output");
            CHECKS.same(0, hedge.restore(), "restore()");
        });
        CHECKS.test("promise 5: 30 times 60 days", () -> {
            HedgeMessages hedge = Hedges.of("hedge 4 1 9 99 30 1;twig 0 a 0 1;nest 1 30;");
            CHECKS.same(30, Hedges.run(hedge, "end 60;".repeat(30)), "executeCommands()");
            CHECKS.same(1800, hedge.day(), "day()");
            CHECKS.same(0, hedge.twigCount(), "twigCount()");
        });
    }

    /** A new object after 29 commands that change nothing and this one. */
    private static HedgeMessages last(String command) {
        HedgeMessages hedge = new HedgeMessages();
        CHECKS.same(30, Hedges.run(hedge, "work 4;".repeat(29) + command), "30 commands, the last " + command);
        return hedge;
    }

    /** Its gardener has no action left; slot 0 holds a twig of gardener 0. */
    private static HedgeMessages tired() {
        HedgeMessages hedge = Hedges.of("hedge 4 1 0 9 30 1;");
        hedge.plant(0, 'a');
        return hedge;
    }

    // ---- Promises 6 and 7 ----

    private static void errorCodeAndPosition() {
        CHECKS.test("promise 6: 0 if there was no call", () -> CHECKS.same(0, new HedgeMessages().errorCode(), "errorCode()"));
        CHECKS.test("promise 7: NONE if there was no call", () ->
                CHECKS.same(HedgeMessages.NONE, new HedgeMessages().errorPosition(), "errorPosition()"));
        CHECKS.test("promise 6: 0 after load and executeCommands without an error", () -> {
            HedgeMessages hedge = failed();
            Hedges.put(hedge, HEAD).load();
            CHECKS.same(0, hedge.errorCode(), "errorCode() after load");
            HedgeMessages other = failed();
            other.executeCommands();
            CHECKS.same(0, other.errorCode(), "errorCode() after executeCommands");
        });
        CHECKS.test("promise 7: NONE after load and executeCommands without an error", () -> {
            HedgeMessages hedge = failed();
            Hedges.put(hedge, HEAD).load();
            CHECKS.same(HedgeMessages.NONE, hedge.errorPosition(), "errorPosition() after load");
            HedgeMessages other = failed();
            other.executeCommands();
            CHECKS.same(HedgeMessages.NONE, other.errorPosition(), "errorPosition() after executeCommands");
        });
        CHECKS.test("promise 6: a command that stops the text is no error", () -> {
            HedgeMessages hedge = failed();
            Hedges.run(hedge, "remove 39;");
            CHECKS.same(0, hedge.errorCode(), "errorCode()");
            CHECKS.same(HedgeMessages.NONE, hedge.errorPosition(), "errorPosition()");
        });
        CHECKS.test("promise 6: other calls that throw don't change it", () -> {
            HedgeMessages hedge = failed();
            CHECKS.badArgument("queueMessage(0)", () -> hedge.queueMessage(0));
            CHECKS.badState("undo()", hedge::undo);
            CHECKS.badIndex("letterAt(-1)", () -> hedge.letterAt(-1));
            CHECKS.same(2, hedge.errorCode(), "errorCode()");
            CHECKS.same(5, hedge.errorPosition(), "errorPosition()");
        });
        CHECKS.test("promise 7: other calls don't change it", () -> {
            HedgeMessages hedge = failed();
            hedge.save();
            hedge.endDays(1);
            hedge.undo();
            hedge.restore();
            Hedges.queue(hedge, 0, "abc");
            hedge.formatHedge();
            CHECKS.same(2, hedge.errorCode(), "errorCode()");
            CHECKS.same(5, hedge.errorPosition(), "errorPosition()");
        });
        CHECKS.test("promises 6 and 7: each of the four codes", () -> {
            wrong(HedgeMessages.SYNTAX_ERROR, 19, HEAD + "x");
            wrong(HedgeMessages.RANGE_ERROR, 24, HEAD + "nest 16 1;");
            wrong(HedgeMessages.CONFLICT_ERROR, 33, HEAD + "nest 1 1;nest 1 1;");
            wrong(HedgeMessages.LIMIT_ERROR, 78, HEAD + nests(7));
        });
        CHECKS.test("promise 7: the position may be 0 and may be 800", () -> {
            wrongCommands(1, 0, "?");
            wrongCommands(1, 800, " ".repeat(796) + "work");
            wrongCommands(1, 799, " ".repeat(799) + "?");
        });
    }

    /** Its most recent text had an error of code 2 at 5. */
    private static HedgeMessages failed() {
        HedgeMessages hedge = Hedges.put(new HedgeMessages(), "work 13;");
        CHECKS.badArgument("executeCommands()", hedge::executeCommands);
        return hedge;
    }
}
