/** Promises 1 to 7: a new object, the input buffer, the two kinds of text and their errors. */
public final class TextPromisesTest {
    private static final String HEAD = "hedge 16 4 2 5 3 4;";
    private static final Checks CHECKS = new Checks();

    private TextPromisesTest() {
    }

    public static void main(String[] args) {
        CHECKS.test("promise 1: a new object", TextPromisesTest::newObject);
        CHECKS.test("promise 2: append", TextPromisesTest::append);
        CHECKS.test("promise 3: truncate", TextPromisesTest::truncate);
        CHECKS.test("promise 4: load replaces all", TextPromisesTest::loadReplacesAll);
        CHECKS.test("promise 4: load keeps output and saved state", TextPromisesTest::loadKeepsOutputAndSaved);
        CHECKS.test("promise 4: nothing of an earlier text is left", TextPromisesTest::loadStartsAnew);
        CHECKS.test("promise 4: a wrong text changes nothing", TextPromisesTest::wrongTextChangesNothing);
        CHECKS.test("promise 4: correct configurations", TextPromisesTest::correctConfigurations);
        CHECKS.test("promise 4: errors of the hedge statement", TextPromisesTest::hedgeErrors);
        CHECKS.test("promise 4: errors of the other statements", TextPromisesTest::statementErrors);
        CHECKS.test("promise 4: limits of nests and messages", TextPromisesTest::configurationLimits);
        CHECKS.test("promise 5: commands are executed", TextPromisesTest::commandsAreExecuted);
        CHECKS.test("promise 5: execution stops at the first that throws", TextPromisesTest::commandsStop);
        CHECKS.test("promise 5: errors of a command text", TextPromisesTest::commandErrors);
        CHECKS.test("promise 5: at most 30 commands", TextPromisesTest::commandLimit);
        CHECKS.test("promise 5: a wrong text changes nothing", TextPromisesTest::wrongCommandsChangeNothing);
        CHECKS.test("promises 6 and 7: code and position", TextPromisesTest::codeAndPosition);
        CHECKS.close();
    }

    private static void newObject() {
        HedgeMessages hedge = new HedgeMessages();
        HedgeMessages loaded = Hedges.of(HEAD + "twig 2 q 0 3;twig 9 r 1 6;nest 10 5;"
                + "message 0 hello;message 1 yes;message 0 no;");
        CHECKS.same(0, Hedges.bufferLength(hedge), "length of the new buffer");
        CHECKS.same(HedgeMessages.NONE, hedge.outputByte(0), "outputByte(0)");
        CHECKS.same(0, hedge.errorCode(), "errorCode()");
        CHECKS.same(-1, hedge.errorPosition(), "errorPosition()");
        CHECKS.badState("undo()", hedge::undo);
        CHECKS.badState("restore()", hedge::restore);
        CHECKS.same("hello no", Hedges.pending(hedge, 0), "queue 0");
        CHECKS.same("yes", Hedges.pending(hedge, 1), "queue 1");
        CHECKS.same("..q......R*.....", Hedges.picture(hedge), "the hedge");
        for (int day = 0; day < 12; day++) {
            CHECKS.same(Hedges.state(loaded), Hedges.state(hedge), "the hedge on day " + day);
            hedge.endDays(1);
            loaded.endDays(1);
        }
        CHECKS.same(0, new HedgeMessages().day(), "day() of a second object");
    }

    private static void append() {
        HedgeMessages hedge = new HedgeMessages();
        // "message 0 abcdefghi;": every parameter and every byte of it has its place.
        CHECKS.same(20, hedge.append(0x6d657373, 0x61676520, 0x30206162, 0x63646566, 0x6768693b), "append");
        hedge.executeCommands();
        CHECKS.same("hello no abcdefghi", Hedges.pending(hedge, 0), "queue 0");
        for (int call = 1; call <= 40; call++) {
            CHECKS.same(call * 20, hedge.append(0x20202020, 0x20202020, 0x20202020, 0x20202020, 0x20202020),
                    "append number " + call);
        }
        CHECKS.badState("append to 800 bytes", () -> hedge.append(0, 0, 0, 0, 0));
        CHECKS.same(800, Hedges.bufferLength(hedge), "the length after that");
        CHECKS.same(0, hedge.executeCommands(), "800 spaces as commands");
        for (int call = 1; call <= 40; call++) {
            hedge.append(-1, -1, -1, -1, -1);
        }
        hedge.truncate(781);
        CHECKS.badState("append to 781 bytes", () -> hedge.append(0, 0, 0, 0, 0));
        CHECKS.same(781, hedge.truncate(781), "truncate(781)");
        hedge.truncate(780);
        CHECKS.same(800, hedge.append(0, 0, 0, 0, 0), "append to 780 bytes");
    }

    private static void truncate() {
        HedgeMessages hedge = new HedgeMessages();
        CHECKS.badArgument("truncate(1) of nothing", () -> hedge.truncate(1));
        CHECKS.same(0, hedge.truncate(0), "truncate(0) of nothing");
        Hedges.put(hedge, "abcdef");
        CHECKS.badArgument("truncate(-1)", () -> hedge.truncate(-1));
        CHECKS.badArgument("truncate(MIN)", () -> hedge.truncate(Integer.MIN_VALUE));
        CHECKS.badArgument("truncate(7)", () -> hedge.truncate(7));
        CHECKS.badArgument("truncate(MAX)", () -> hedge.truncate(Integer.MAX_VALUE));
        CHECKS.same(6, hedge.truncate(6), "truncate(6)");
        CHECKS.same(2, hedge.truncate(2), "truncate(2)");
        CHECKS.badArgument("truncate(3) after that", () -> hedge.truncate(3));
        CHECKS.same(22, hedge.append(0x63202020, 0, 0, 0, 0), "append behind the rest");
        hedge.truncate(3);
        hedge.queueMessage(1);
        CHECKS.same("yes abc", Hedges.pending(hedge, 1), "queue 1");
    }

    private static void loadReplacesAll() {
        HedgeMessages hedge = new HedgeMessages();
        hedge.endDays(7);
        Hedges.queue(hedge, 0, "word");
        hedge.cancelMessage(0, 0);
        Hedges.put(hedge, "hedge 7 5 1 2 4 3;twig 6 z 1 9;nest 0 30;message 1 ok;");
        CHECKS.same(7, hedge.load(), "load()");
        CHECKS.same(0, Hedges.bufferLength(hedge), "length of the buffer");
        CHECKS.badState("undo()", hedge::undo);
        CHECKS.same("*.....Z", Hedges.picture(hedge), "the hedge");
        CHECKS.same(0, hedge.day(), "day()");
        CHECKS.same(5, hedge.workLimit(), "workLimit()");
        CHECKS.same(5, hedge.actionsLeft(), "actionsLeft()");
        CHECKS.same(4, hedge.daysUntilInspection(), "daysUntilInspection()");
        CHECKS.same(1, hedge.yardLetterCount(2), "yardLetterCount(2)");
        CHECKS.same("", Hedges.pending(hedge, 0), "queue 0");
        CHECKS.same("ok", Hedges.pending(hedge, 1), "queue 1");
        CHECKS.same(1, hedge.twigsPlanted(), "twigsPlanted()");
        CHECKS.same(0, hedge.twigsPruned() + hedge.twigsRemoved(), "pruned and removed");
        for (int gardener = 0; gardener < 2; gardener++) {
            CHECKS.same(gardener, hedge.messagesQueued(gardener), "messagesQueued");
            CHECKS.same(0, hedge.messagesDelivered(gardener) + hedge.messagesFailed(gardener)
                    + hedge.messagesDropped(gardener) + hedge.postedCount(gardener)
                    + hedge.lettersWritten(gardener), "the other counters");
        }
        hedge.endDays(1);
        CHECKS.same(10, hedge.lengthAt(6), "length after a day of growth 1");
    }

    private static void loadKeepsOutputAndSaved() {
        HedgeMessages hedge = new HedgeMessages();
        hedge.endDays(2);
        hedge.save();
        String before = Hedges.state(hedge);
        hedge.formatHedge();
        int length = hedge.slotCount();
        StringBuilder output = new StringBuilder();
        for (int index = 0; index < length; index++) {
            output.append(hedge.outputByte(index)).append(' ');
        }
        Hedges.put(hedge, "hedge 4 1 1 1 1 1;");
        hedge.load();
        StringBuilder after = new StringBuilder();
        for (int index = 0; index < length; index++) {
            after.append(hedge.outputByte(index)).append(' ');
        }
        CHECKS.same(output.toString(), after.toString(), "the output");
        CHECKS.same(2, hedge.restore(), "restore()");
        CHECKS.same(before, Hedges.state(hedge), "the restored hedge");
    }

    private static void loadStartsAnew() {
        String bare = HEAD + "message 1 z;";
        String due = Hedges.state(Hedges.of(bare));
        String rich = "hedge 16 9 2 3 5 2;twig 0 a 1 9;twig 5 b 0 4;nest 0 3;nest 9 9;message 0 abcd;message 0 e;"
                + "message 1 xy;message 1 no;";
        HedgeMessages twice = Hedges.of(rich);
        Hedges.put(twice, bare);
        twice.load();
        CHECKS.same(due, Hedges.state(twice), "the hedge after two texts");
        HedgeMessages late = Hedges.of(rich);
        late.cancelMessage(1, 1);
        late.trim(5, 1);
        late.remove(5);
        for (int days : new int[] {1, 2, 3, 5, 20}) {
            late.endDays(days);
            late.deliveredAfter(0, 1);
            Hedges.put(late, bare);
            late.load();
            CHECKS.same(due, Hedges.state(late), "the hedge after " + days + " days");
            Hedges.put(late, rich);
            late.load();
        }
        // The forecast leaves a message in progress and one that failed.
        HedgeMessages slow = Hedges.of("hedge 16 1 2 3 3 2;message 0 abcd;message 1 xyz;");
        slow.endDays(3);
        CHECKS.same(2, slow.messagesFailed(0) + slow.messagesFailed(1), "failed messages");
        slow.pendingAfter(0, 2);
        Hedges.put(slow, bare);
        slow.load();
        CHECKS.same(due, Hedges.state(slow), "the hedge after messages in progress");
        wrong(late, rich + "?", 1, rich.length());
        Hedges.put(late, bare);
        late.load();
        CHECKS.same(due, Hedges.state(late), "the hedge after a wrong text");
    }

    private static void wrongTextChangesNothing() {
        HedgeMessages hedge = new HedgeMessages();
        hedge.endDays(2);
        String before = Hedges.state(hedge);
        wrong(hedge, HEAD + "twig 3 a 1 9;nest 3 9;message 1 late;oops", 1, 56);
        CHECKS.same(before, Hedges.state(hedge), "the hedge");
        CHECKS.same(0, Hedges.bufferLength(hedge), "length of the buffer");
        CHECKS.same(0, hedge.undo(), "undo()");
    }

    private static void correctConfigurations() {
        String[] correct = {
            HEAD, "  hedge   16 4 2 5 3 4  ;  ", "hedge16 4 2 5 3 4;", "hedge 016 004 000 099 030 040;",
            HEAD + " nest 0 1 ; twig 0 a 1 99 ; ", HEAD + "twig0a0 1;twig15z1 99;nest15 30;message0abcdefghijkl;",
            "hedge 4 1 0 1 1 1;", "hedge 40 12 9 99 30 40;twig 39 a 0 1;nest 39 1;", HEAD + "message 0 twig;",
            HEAD + "message 0 hedge;message 1 nest;",
        };
        for (String text : correct) {
            HedgeMessages hedge = new HedgeMessages();
            wrong(hedge, "?", 1, 0);
            Hedges.put(hedge, text);
            CHECKS.same(text.contains("40 12") ? 40 : text.startsWith("hedge 4 ") ? 4 : 16, hedge.load(), text);
            CHECKS.same(0, hedge.errorCode(), "errorCode() of " + text);
            CHECKS.same(-1, hedge.errorPosition(), "errorPosition() of " + text);
        }
        CHECKS.same("abcdefghijkl", Hedges.pending(Hedges.of(HEAD + "message 0 abcdefghijkl;"), 0), "12 letters");
    }

    private static void hedgeErrors() {
        wrongConfiguration("", 1, 0);
        wrongConfiguration("   ", 1, 3);
        wrongConfiguration("kedge 16 4 2 5 3 4;", 1, 0);
        wrongConfiguration("hedgf 16 4 2 5 3 4;", 1, 0);
        wrongConfiguration("hedges 16 4 2 5 3 4;", 1, 0);
        wrongConfiguration(" twig 1 a 0 1;", 1, 1);
        wrongConfiguration("16 4 2 5 3 4;", 1, 0);
        wrongConfiguration(";", 1, 0);
        wrongConfiguration("Hedge 16 4 2 5 3 4;", 1, 0);
        wrongConfiguration("hedge", 1, 5);
        wrongConfiguration("hedge  ", 1, 7);
        wrongConfiguration("hedge 3 4 2 5 3 4;", 2, 6);
        wrongConfiguration("hedge 41 4 2 5 3 4;", 2, 6);
        wrongConfiguration("hedge 16 0 2 5 3 4;", 2, 9);
        wrongConfiguration("hedge 16 13 2 5 3 4;", 2, 9);
        wrongConfiguration("hedge 16 4 10 5 3 4;", 2, 11);
        wrongConfiguration("hedge 16 4 2 0 3 4;", 2, 13);
        wrongConfiguration("hedge 16 4 2 100 3 4;", 2, 13);
        wrongConfiguration("hedge 16 4 2 5 0 4;", 2, 15);
        wrongConfiguration("hedge 16 4 2 5 31 4;", 2, 15);
        wrongConfiguration("hedge 16 4 2 5 3 0;", 2, 17);
        wrongConfiguration("hedge 16 4 2 5 3 41;", 2, 17);
        wrongConfiguration("hedge 0016 4 2 5 3 4;", 1, 6);
        wrongConfiguration("hedge 1000 4 2 5 3 4;", 1, 6);
        wrongConfiguration("hedge 99999999999999999999 4", 1, 6);
        wrongConfiguration("hedge 999 4", 2, 6);
        wrongConfiguration("hedge 16 x 2 5 3 4;", 1, 9);
        wrongConfiguration("hedge 16 4 2 5 3;", 1, 16);
        wrongConfiguration("hedge 16 4 2 5 3 4", 1, 18);
        wrongConfiguration("hedge 16 4 2 5 3 4  ", 1, 20);
        wrongConfiguration("hedge 16 4 2 5 3 4 4;", 1, 19);
        wrongConfiguration("hedge 16 4 2 5 3 4 twig", 1, 19);
        wrongConfiguration("hedge\t16 4 2 5 3 4;", 1, 5);
        wrongConfiguration("hedge 16,4 2 5 3 4;", 1, 8);
        wrongConfiguration("hedge -16 4 2 5 3 4;", 1, 6);
    }

    private static void statementErrors() {
        for (String sign : new String[] {"\n", "A", "Z", "`", "{", "/", ":", "\u0000", "\u0080", "\u00e9", "\u00ff"}) {
            wrongConfiguration(HEAD + " " + sign, 1, 20);
        }
        wrongConfiguration(HEAD + ";", 1, 19);
        wrongConfiguration(HEAD + HEAD, 1, 19);
        wrongConfiguration(HEAD + "7", 1, 19);
        wrongConfiguration(HEAD + "twigs 1 a 0 1;", 1, 19);
        wrongConfiguration(HEAD + "nwig 1 a 0 1;", 1, 19);
        wrongConfiguration(HEAD + "twi 1 a 0 1;", 1, 19);
        wrongConfiguration(HEAD + "plant 1 a;", 1, 19);
        wrongConfiguration(HEAD + "twig", 1, 23);
        wrongConfiguration(HEAD + "twig a 0 1;", 1, 24);
        wrongConfiguration(HEAD + "twig 16 a 0 1;", 2, 24);
        wrongConfiguration(HEAD + "twig 0001 a 0 1;", 1, 24);
        wrongConfiguration(HEAD + "twig 15 ab 0 1;", 1, 27);
        wrongConfiguration(HEAD + "twig 15 7 0 1;", 1, 27);
        wrongConfiguration(HEAD + "twig 15 A 0 1;", 1, 27);
        wrongConfiguration(HEAD + "twig 15 a 2 1;", 2, 29);
        wrongConfiguration(HEAD + "twig 15 a b 1;", 1, 29);
        wrongConfiguration(HEAD + "twig 15 a 1 0;", 2, 31);
        wrongConfiguration(HEAD + "twig 15 a 1 100;", 2, 31);
        wrongConfiguration(HEAD + "twig 15 a 1 9", 1, 32);
        wrongConfiguration(HEAD + "twig 15 a 1 9 9;", 1, 33);
        wrongConfiguration(HEAD + "twig 7 a 1 9;twig 7 b", 3, 37);
        wrongConfiguration(HEAD + "twig 7 a 1 9;twig 0007 b", 1, 37);
        wrongConfiguration(HEAD + "nest 16 1;", 2, 24);
        wrongConfiguration(HEAD + "nest x 1;", 1, 24);
        wrongConfiguration(HEAD + "nest 15 0;", 2, 27);
        wrongConfiguration(HEAD + "nest 15 31;", 2, 27);
        wrongConfiguration(HEAD + "nest 15;", 1, 26);
        wrongConfiguration(HEAD + "nest 15 3 twig", 1, 29);
        wrongConfiguration(HEAD + "nest 7 9;nest 7 9;", 3, 33);
        wrongConfiguration(HEAD + "message 2 abc;", 2, 27);
        wrongConfiguration(HEAD + "message abc 0;", 1, 27);
        wrongConfiguration(HEAD + "message 0 abcdefghijklm;", 1, 29);
        wrongConfiguration(HEAD + "message 0 5;", 1, 29);
        wrongConfiguration(HEAD + "message 0;", 1, 28);
        wrongConfiguration(HEAD + "message 0 ab cd;", 1, 32);
        wrongConfiguration(HEAD + "message 0 aBc;", 1, 30);
    }

    private static void configurationLimits() {
        String six = HEAD + "nest 0 1;nest 2 1;nest 4 1;nest 6 1;nest 8 1;nest 9 1;";
        CHECKS.same(6, Hedges.of(six).nestCount(), "nestCount()");
        int end = six.length();
        wrongConfiguration(six + "nest 10 1;", 4, end + 5);
        wrongConfiguration(six + "nest 10 0;", 4, end + 5);
        wrongConfiguration(six + "nest 16 1;", 2, end + 5);
        wrongConfiguration(six + "nest 9 1;", 3, end + 5);
        wrongConfiguration(six + "nest 0010 1;", 1, end + 5);
        StringBuilder eight = new StringBuilder(HEAD);
        for (int message = 0; message < 8; message++) {
            eight.append("message 1 a;");
        }
        CHECKS.same(8, Hedges.of(eight + "message 0 b;").pendingCount(1), "pendingCount(1)");
        wrongConfiguration(eight + "message 1 b;", 4, eight.length() + 10);
        wrongConfiguration(eight + "message 1 ", 1, eight.length() + 10);
        wrongConfiguration(eight + "message 1 abcdefghijklm;", 1, eight.length() + 10);
    }

    private static void commandsAreExecuted() {
        HedgeMessages hedge = new HedgeMessages();
        CHECKS.same(3, Hedges.run(hedge, "plant 0 z; trim 2 2 ;remove 0;"), "three commands");
        CHECKS.same("..q......R*.....", Hedges.picture(hedge), "the hedge");
        CHECKS.same(1, hedge.lengthAt(2), "lengthAt(2)");
        CHECKS.same(1, hedge.actionsLeft(), "actionsLeft()");
        CHECKS.same(0, Hedges.bufferLength(hedge), "length of the buffer");
        CHECKS.same(5, Hedges.run(hedge, "nest3 7;message 1 abcdefghijkl;cancel 0 0;work 12;end 2;"), "five more");
        CHECKS.same(5, hedge.nestDays(3), "nestDays(3)");
        CHECKS.same(12, hedge.workLimit(), "workLimit()");
        CHECKS.same(2, hedge.day(), "day()");
        CHECKS.same(3, hedge.messagesQueued(1) + hedge.messagesDropped(0), "queued and dropped");
        CHECKS.same(1, hedge.undo(), "undo() of five commands at once");
        CHECKS.same(0, hedge.day(), "day() after undo");
        CHECKS.same(0, hedge.undo(), "undo() of three commands at once");
        CHECKS.same(Hedges.state(new HedgeMessages()), Hedges.state(hedge), "the hedge after that");
        CHECKS.same(0, Hedges.run(hedge, ""), "no commands");
        CHECKS.same(0, Hedges.run(hedge, "  "), "spaces");
        CHECKS.same(1, hedge.undo(), "undo() of no commands");
        Hedges.run(hedge, "message 0 abcdefghijkl;message 1 x;message 0 end;");
        CHECKS.same("hello no abcdefghijkl end", Hedges.pending(hedge, 0), "queue 0");
        CHECKS.same("yes x", Hedges.pending(hedge, 1), "queue 1");
        CHECKS.same(1, Hedges.run(hedge, "trim 2 1;"), "one command after three");
        CHECKS.same(0, Hedges.run(hedge, ""), "no command after one");
        HedgeMessages edges = Hedges.of("hedge 40 9 0 9 30 1;twig 0 a 0 9;twig 38 b 0 9;twig 39 c 0 9;"
                + "message 0 a;".repeat(8));
        CHECKS.same(8, Hedges.run(edges, "trim 0 8;trim 39 8;remove 39;remove 0;remove 38;plant 0 z;nest 39 30;"
                + "cancel 0 7;"), "commands for the first and the last slot");
        CHECKS.same(4, Hedges.run(edges, "nest 38 1;cancel 0 0;work 1;end 60;"), "more commands");
    }

    private static void commandsStop() {
        String[] stopping = {
            "plant 16 a;", "plant 2 a;", "plant 10 a;", "remove 0;", "remove 9;", "remove 39;", "trim 9 1;",
            "trim 39 1;", "nest 10 1;", "nest 16 1;", "cancel 0 2;", "cancel 1 1;",
        };
        for (String command : stopping) {
            HedgeMessages hedge = new HedgeMessages();
            CHECKS.same(1, Hedges.run(hedge, "work 7;" + command + "work 9;"), "work 7;" + command);
            CHECKS.same(7, hedge.workLimit(), "workLimit() after " + command);
            CHECKS.same(0, hedge.errorCode(), "errorCode() after " + command);
            CHECKS.same(0, hedge.undo(), "undo() after " + command);
            CHECKS.same(Hedges.state(new HedgeMessages()), Hedges.state(hedge), "the hedge after " + command);
        }
        HedgeMessages full = new HedgeMessages();
        CHECKS.same(6, Hedges.run(full, "message 0 a;message 0 b;message 0 c;message 0 d;message 0 e;"
                + "message 0 f;message 0 g;work 1;"), "a ninth message");
        CHECKS.same("hello no a b c d e f", Hedges.pending(full, 0), "queue 0");
        HedgeMessages nests = new HedgeMessages();
        CHECKS.same(5, Hedges.run(nests, "nest 0 1;nest 1 1;nest 2 1;nest 3 1;nest 4 1;nest 5 1;"), "a seventh nest");
        HedgeMessages tired = new HedgeMessages();
        CHECKS.same(4, Hedges.run(tired, "trim 2 1;trim 2 1;trim 2 1;trim 2 1;trim 2 1;"), "a fifth action");
    }

    private static void commandErrors() {
        wrongCommands("plants 1 a;", 1, 0);
        wrongCommands("olant 1 a;", 1, 0);
        wrongCommands("planu 1 a;", 1, 0);
        wrongCommands(";", 1, 0);
        wrongCommands("work 1;;", 1, 7);
        wrongCommands("7;", 1, 0);
        wrongCommands("Work 1;", 1, 0);
        wrongCommands("hedge 16 4 2 5 3 4;", 1, 0);
        wrongCommands("plant", 1, 5);
        wrongCommands("plant  ", 1, 7);
        wrongCommands("plant 40 a;", 2, 6);
        wrongCommands("plant 0040 a;", 1, 6);
        wrongCommands("plant a 4;", 1, 6);
        wrongCommands("plant 39 ab;", 1, 9);
        wrongCommands("plant 39 4;", 1, 9);
        wrongCommands("plant 39 a", 1, 10);
        wrongCommands("plant 39 a b;", 1, 11);
        wrongCommands("plant 39;", 1, 8);
        wrongCommands("remove 40;", 2, 7);
        wrongCommands("remove 1 1;", 1, 9);
        wrongCommands("remove;", 1, 6);
        wrongCommands("trim 40 1;", 2, 5);
        wrongCommands("trim 4 0;", 2, 7);
        wrongCommands("trim 4 100;", 2, 7);
        wrongCommands("trim 4 a;", 1, 7);
        wrongCommands("nest 40 1;", 2, 5);
        wrongCommands("nest 4 0;", 2, 7);
        wrongCommands("nest 4 31;", 2, 7);
        wrongCommands("message 2 a;", 2, 8);
        wrongCommands("message 1 abcdefghijklm;", 1, 10);
        wrongCommands("message 1 1;", 1, 10);
        wrongCommands("message 1;", 1, 9);
        wrongCommands("cancel 2 0;", 2, 7);
        wrongCommands("cancel 1 8;", 2, 9);
        wrongCommands("cancel 1 a;", 1, 9);
        wrongCommands("cancel 1;", 1, 8);
        wrongCommands("work 0;", 2, 5);
        wrongCommands("work 13;", 2, 5);
        wrongCommands("work 1 2;", 1, 7);
        wrongCommands("end 0;", 2, 4);
        wrongCommands("end 61;", 2, 4);
        wrongCommands("end 1000;", 1, 4);
        wrongCommands("end 1,", 1, 5);
        wrongCommands("end 1;\n", 1, 6);
        wrongCommands("end 1;\u00e9", 1, 6);
    }

    private static void commandLimit() {
        String thirty = "work 3;".repeat(30);
        CHECKS.same(30, Hedges.run(new HedgeMessages(), thirty), "30 commands");
        CHECKS.same(30, Hedges.run(new HedgeMessages(), thirty + "  "), "30 commands and spaces");
        for (String name : new String[] {"plant", "remove", "trim", "nest", "message", "cancel", "work", "end"}) {
            wrongCommands(thirty + name, 4, 210);
            wrongCommands(thirty + " " + name + " x", 4, 211);
        }
        wrongCommands(thirty + "works 1;", 1, 210);
        wrongCommands(thirty + "7", 1, 210);
        wrongCommands(thirty + ";", 1, 210);
        wrongCommands(thirty + "?", 1, 210);
    }

    private static void wrongCommandsChangeNothing() {
        HedgeMessages hedge = new HedgeMessages();
        hedge.endDays(1);
        String before = Hedges.state(hedge);
        Hedges.put(hedge, "work 7;end 3;message 0 abc;plant 40 a;");
        CHECKS.badArgument("executeCommands()", hedge::executeCommands);
        CHECKS.same(before, Hedges.state(hedge), "the hedge");
        CHECKS.same(0, Hedges.bufferLength(hedge), "length of the buffer");
        CHECKS.same(0, hedge.undo(), "undo()");
    }

    private static void codeAndPosition() {
        HedgeMessages hedge = new HedgeMessages();
        wrong(hedge, HEAD + "twig 1 a 0 1;twig 1 b 0 1;", 3, 37);
        hedge.endDays(1);
        hedge.undo();
        hedge.save();
        hedge.restore();
        Hedges.queue(hedge, 0, "abc");
        CHECKS.same(3, hedge.errorCode(), "errorCode() after other calls");
        CHECKS.same(37, hedge.errorPosition(), "errorPosition() after other calls");
        Hedges.run(hedge, "work 3;");
        CHECKS.same(0, hedge.errorCode(), "errorCode() after good commands");
        CHECKS.same(-1, hedge.errorPosition(), "errorPosition() after good commands");
        Hedges.put(hedge, "work 13;");
        CHECKS.badArgument("executeCommands()", hedge::executeCommands);
        CHECKS.same(2, hedge.errorCode(), "errorCode()");
        CHECKS.same(5, hedge.errorPosition(), "errorPosition()");
        Hedges.put(hedge, HEAD);
        hedge.load();
        CHECKS.same(0, hedge.errorCode(), "errorCode() after a good configuration");
        CHECKS.same(-1, hedge.errorPosition(), "errorPosition() after a good configuration");
    }

    private static void wrongConfiguration(String text, int code, int position) {
        wrong(new HedgeMessages(), text, code, position);
    }

    private static void wrong(HedgeMessages hedge, String text, int code, int position) {
        Hedges.put(hedge, text);
        CHECKS.badArgument("load() of " + text, hedge::load);
        CHECKS.same(code, hedge.errorCode(), "errorCode() of " + text);
        CHECKS.same(position, hedge.errorPosition(), "errorPosition() of " + text);
    }

    private static void wrongCommands(String text, int code, int position) {
        HedgeMessages hedge = new HedgeMessages();
        Hedges.put(hedge, text);
        CHECKS.badArgument("executeCommands() of " + text, hedge::executeCommands);
        CHECKS.same(code, hedge.errorCode(), "errorCode() of " + text);
        CHECKS.same(position, hedge.errorPosition(), "errorPosition() of " + text);
    }
}
