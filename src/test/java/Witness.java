/**
 * An object that has something everywhere: a saved state, one operation to undo, an output, an error and a
 * text in the input buffer, so that a refused call can be seen to leave all of it as it was.
 */
final class Witness {
    private static final String COMMAND = "work 9;";

    final HedgeMessages hedge;
    private final Checks checks;
    private final String saved;
    private final String current;
    private final String output;
    private int code = HedgeMessages.RANGE_ERROR;
    private int position = 5;

    /** The hedge's work limit becomes 7, valid from its next day on; its input buffer must be empty. */
    Witness(Checks checks, HedgeMessages hedge) {
        this.checks = checks;
        this.hedge = hedge;
        Hedges.put(hedge, "work 13;");
        checks.badArgument("executeCommands() of a work limit of 13", hedge::executeCommands);
        hedge.save();
        // Nothing older is to be undone, so that the number of undos is known.
        hedge.restore();
        saved = Hedges.state(hedge);
        hedge.setWorkLimit(7);
        current = Hedges.state(hedge);
        output = Hedges.picture(hedge);
        Hedges.put(hedge, COMMAND);
    }

    void refusesIndex(String what, Runnable call) {
        checks.badIndex(what, call);
        isUnchanged(what);
    }

    void refusesArgument(String what, Runnable call) {
        checks.badArgument(what, call);
        isUnchanged(what);
    }

    void refusesState(String what, Runnable call) {
        checks.badState(what, call);
        isUnchanged(what);
    }

    void refusesConfiguration(String text, int dueCode, int duePosition) {
        refusesText("load() of " + text, text, hedge::load, dueCode, duePosition);
    }

    void refusesCommands(String text, int dueCode, int duePosition) {
        refusesText("executeCommands() of " + text, text, hedge::executeCommands, dueCode, duePosition);
    }

    private void refusesText(String what, String text, Runnable reading, int dueCode, int duePosition) {
        hedge.truncate(0);
        Hedges.put(hedge, text);
        checks.badArgument(what, reading);
        checks.same(0, Hedges.truncated(hedge, 0), "the input buffer after " + what);
        code = dueCode;
        position = duePosition;
        Hedges.put(hedge, COMMAND);
        isUnchanged(what);
    }

    void isUnchanged(String what) {
        checks.same(current, Hedges.state(hedge), "the hedge after " + what);
        checks.same(output, Hedges.lastOutput(hedge, output.length()), "the output after " + what);
        checks.same(HedgeMessages.NONE, hedge.outputByte(output.length()), "the output's end after " + what);
        checks.same(code, hedge.errorCode(), "errorCode() after " + what);
        checks.same(position, hedge.errorPosition(), "errorPosition() after " + what);
    }

    /** Looks at what can be seen only once: the input buffer, what can be undone and the saved state. */
    void close() {
        checks.same(COMMAND.length(), Hedges.truncated(hedge, COMMAND.length()), "the length of the input buffer");
        checks.same(1, hedge.executeCommands(), "the command in the input buffer");
        checks.same(9, hedge.workLimit(), "workLimit() of the command in the input buffer");
        checks.same(1, hedge.undo(), "undo() of the command");
        checks.same(current, Hedges.state(hedge), "the hedge after undo() of the command");
        checks.same(0, hedge.undo(), "undo() of setWorkLimit");
        checks.same(saved, Hedges.state(hedge), "the hedge after undo() of setWorkLimit");
        checks.badState("undo() of nothing", hedge::undo);
        hedge.setWorkLimit(11);
        hedge.restore();
        checks.same(saved, Hedges.state(hedge), "the restored hedge");
    }
}
