/**
 * A simulator of a hedge that two gardeners use as a message board. What it does is promised in
 * ../shared/DOC.md; which part of Java it may use is told in ../shared/LANGUAGE.md.
 */
public final class HedgeMessages {
    public static final int NONE = -1;
    public static final int SYNTAX_ERROR = 1;
    public static final int RANGE_ERROR = 2;
    public static final int CONFLICT_ERROR = 3;
    public static final int LIMIT_ERROR = 4;
    public static final int ALLOWED = 0;
    public static final int NO_ACTIONS_LEFT = 1;
    public static final int SLOT_TAKEN = 2;
    public static final int SLOT_RESERVED = 3;
    public static final int NEST_IN_SLOT = 4;
    public static final int SLOT_EMPTY = 5;
    public static final int NOT_OWNER = 6;
    public static final int PART_OF_MESSAGE = 7;
    public static final int PROTECTED = 8;
    public static final int TOO_MANY_NESTS = 9;
    public static final int QUEUE_FULL = 10;
    public static final int NOTHING_TO_WRITE = 11;
    public static final int NO_START_SLOT = 12;
    public static final int NOT_ACTIVE = 13;
    public static final int SHORT_ENOUGH = 14;

    private static final int MIN_SLOTS = 4;
    private static final int MAX_SLOTS = 40;
    private static final int MAX_WORK_LIMIT = 12;
    private static final int MAX_GROWTH = 9;
    private static final int MAX_LENGTH = 99;
    private static final int MAX_INTERVAL = 30;
    private static final int MAX_YARD = 40;
    private static final int MAX_NESTS = 6;
    private static final int MAX_NEST_DAYS = 30;
    private static final int MAX_PENDING = 8;
    private static final int MAX_WORD = 12;
    private static final int MAX_DAYS = 60;
    private static final int MAX_UNDO = 8;
    private static final int MAX_COMMANDS = 30;
    private static final int MAX_TEXT = 800;
    private static final int APPENDED_BYTES = 20;

    private static final CommandForm[] COMMAND_FORMS = CommandForm.values();

    private final Hedge hedge;
    /** Overwritten by every forecast and by every text that is read; nothing is kept in it. */
    private final Hedge scratch;
    private final Hedge saved;
    private boolean hasSaved;
    private final History history;
    private final Text text;
    private final CommandList commands;
    private final Row output;
    private int outputLength;

    public HedgeMessages() {
        hedge = new Hedge();
        scratch = new Hedge();
        saved = new Hedge();
        history = new History();
        text = new Text();
        commands = new CommandList();
        output = new Row(MAX_SLOTS);
        hedge.layOut(16, 4, 2, 5, 3, 4);
        hedge.placeTwig(2, 'q', 0, 3);
        hedge.placeTwig(9, 'r', 1, 6);
        hedge.placeNest(10, 5);
        hedge.receiveText(0, "hello");
        hedge.receiveText(1, "yes");
        hedge.receiveText(0, "no");
    }

    // ---- The input buffer and the texts in it ----

    public int append(int a, int b, int c, int d, int e) throws IllegalStateException {
        if (text.length + APPENDED_BYTES > MAX_TEXT) {
            throw new IllegalStateException("the input buffer would exceed 800 bytes");
        }
        text.appendBytes(a);
        text.appendBytes(b);
        text.appendBytes(c);
        text.appendBytes(d);
        text.appendBytes(e);
        return text.length;
    }

    public int truncate(int length) throws IllegalArgumentException {
        if (length < 0 || length > text.length) {
            throw new IllegalArgumentException("not a length up to the current one");
        }
        text.length = length;
        return length;
    }

    public int load() throws IllegalArgumentException {
        boolean correct = Configuration.read(text, scratch);
        text.length = 0;
        if (!correct) {
            throw new IllegalArgumentException("the configuration has an error");
        }
        hedge.copyFrom(scratch);
        history.forget();
        return hedge.slots;
    }

    public int executeCommands() throws IllegalArgumentException {
        boolean correct = commands.read(text);
        int executed = 0;
        if (correct) {
            history.remember(hedge);
            while (executed < commands.count && perform(executed)) {
                executed++;
            }
        }
        // Only now: the words of the commands still stood in the buffer.
        text.length = 0;
        if (!correct) {
            throw new IllegalArgumentException("the command text has an error");
        }
        return executed;
    }

    public int errorCode() {
        return text.errorCode;
    }

    public int errorPosition() {
        return text.errorPosition;
    }

    // ---- The day ----

    public int slotCount() {
        return hedge.slots;
    }

    public int day() {
        return hedge.day;
    }

    public int activeGardener() {
        return hedge.active();
    }

    public int workLimit() {
        return hedge.workLimit;
    }

    public int actionsLeft() {
        return hedge.actions;
    }

    // ---- The slots ----

    public int twigCount() {
        return hedge.countTwigs();
    }

    public int letterAt(int slot) throws IndexOutOfBoundsException {
        requireSlot(slot);
        return hedge.hasTwig(slot) ? hedge.letters.get(slot) : NONE;
    }

    public int ownerAt(int slot) throws IndexOutOfBoundsException {
        requireSlot(slot);
        return hedge.hasTwig(slot) ? hedge.owners.get(slot) : NONE;
    }

    public int lengthAt(int slot) throws IndexOutOfBoundsException {
        requireSlot(slot);
        return hedge.lengths.get(slot);
    }

    public boolean isReserved(int slot) throws IndexOutOfBoundsException {
        requireSlot(slot);
        return hedge.isBooked(slot);
    }

    public int nestDays(int slot) throws IndexOutOfBoundsException {
        requireSlot(slot);
        return hedge.nests.get(slot);
    }

    public boolean isProtected(int slot) throws IndexOutOfBoundsException {
        requireSlot(slot);
        return hedge.isGuarded(slot);
    }

    public int nestCount() {
        return hedge.countNests();
    }

    // ---- The messages ----

    public int pendingCount(int gardener) throws IllegalArgumentException {
        requireGardener(gardener);
        return hedge.gardener(gardener).pending;
    }

    public int pendingLetter(int gardener, int message, int index) throws IllegalArgumentException {
        requireGardener(gardener);
        return hedge.gardener(gardener).letterOf(message, index);
    }

    public int lettersWritten(int gardener) throws IllegalArgumentException {
        requireGardener(gardener);
        return hedge.gardener(gardener).written;
    }

    public int startSlot(int gardener) throws IllegalArgumentException {
        requireGardener(gardener);
        Gardener writer = hedge.gardener(gardener);
        return writer.isWriting() ? writer.start : NONE;
    }

    public int postedCount(int gardener) throws IllegalArgumentException {
        requireGardener(gardener);
        return hedge.posted.countOf(gardener);
    }

    public int nextStartSlot(int gardener) throws IllegalArgumentException {
        requireGardener(gardener);
        return hedge.findStart(hedge.gardener(gardener).lengthOf(0));
    }

    public int longestFreeRun() {
        return hedge.longestRun();
    }

    public int yardLetterCount(int yard) {
        return hedge.countTwigsInYard(yard);
    }

    // ---- Reasons ----

    public int plantReason(int slot) throws IndexOutOfBoundsException {
        requireSlot(slot);
        return hedge.reasonNotToPlant(slot);
    }

    public int removeReason(int slot) throws IndexOutOfBoundsException {
        requireSlot(slot);
        return hedge.reasonNotToRemove(slot);
    }

    public int trimReason(int slot) throws IndexOutOfBoundsException {
        requireSlot(slot);
        return hedge.reasonNotToTrim(slot);
    }

    public int writeReason(int gardener) throws IllegalArgumentException {
        requireGardener(gardener);
        return hedge.reasonNotToWrite(gardener);
    }

    public int keepReason(int slot) throws IndexOutOfBoundsException {
        requireSlot(slot);
        return hedge.reasonNotToPrune(slot);
    }

    // ---- Forecasts ----

    public int daysUntilInspection() {
        return hedge.daysToInspection();
    }

    public int daysUntilPruned(int slot) throws IndexOutOfBoundsException {
        requireSlot(slot);
        scratch.copyFrom(hedge);
        for (int days = 0; days <= MAX_DAYS; days++) {
            if (!scratch.hasTwig(slot)) {
                return days;
            }
            scratch.endOneDay();
        }
        return NONE;
    }

    public int deliveredAfter(int gardener, int days) throws IllegalArgumentException {
        requireGardener(gardener);
        requireDays(days, 0);
        foresee(days);
        return scratch.gardener(gardener).delivered - hedge.gardener(gardener).delivered;
    }

    public int pendingAfter(int gardener, int days) throws IllegalArgumentException {
        requireGardener(gardener);
        requireDays(days, 0);
        foresee(days);
        return scratch.gardener(gardener).pending;
    }

    public int bestNestSlot() {
        return hedge.bestSlotForNest();
    }

    public int leastWorkLimit(int gardener, int days) throws IllegalArgumentException {
        requireGardener(gardener);
        requireDays(days, 1);
        for (int limit = 1; limit <= MAX_WORK_LIMIT; limit++) {
            if (suffices(limit, gardener, days)) {
                return limit;
            }
        }
        return NONE;
    }

    // ---- Counters ----

    public int messagesQueued(int gardener) throws IllegalArgumentException {
        requireGardener(gardener);
        return hedge.gardener(gardener).queued;
    }

    public int messagesDelivered(int gardener) throws IllegalArgumentException {
        requireGardener(gardener);
        return hedge.gardener(gardener).delivered;
    }

    public int messagesFailed(int gardener) throws IllegalArgumentException {
        requireGardener(gardener);
        return hedge.gardener(gardener).failed;
    }

    public int messagesDropped(int gardener) throws IllegalArgumentException {
        requireGardener(gardener);
        return hedge.gardener(gardener).dropped;
    }

    public int twigsPlanted() {
        return hedge.planted;
    }

    public int twigsPruned() {
        return hedge.pruned;
    }

    public int twigsRemoved() {
        return hedge.removed;
    }

    public int twigImbalance() {
        return hedge.planted - (hedge.pruned + hedge.removed + hedge.countTwigs());
    }

    public int messageImbalance() {
        return hedge.first.queuedMinusSettled() + hedge.second.queuedMinusSettled() - hedge.posted.count;
    }

    public int wrongLetters() {
        return hedge.countWrongLetters();
    }

    public float meanLength() {
        int twigs = hedge.countTwigs();
        return twigs > 0 ? (float) hedge.sumOfLengths() / (float) twigs : 0.0f;
    }

    public double occupancy() {
        return hedge.slots > 0 ? (double) hedge.countTwigs() / (double) hedge.slots : 0.0;
    }

    // ---- Operations ----

    public int plant(int slot, int letter)
            throws IndexOutOfBoundsException, IllegalArgumentException, IllegalStateException {
        requireSlot(slot);
        if (!isLetter(letter)) {
            throw new IllegalArgumentException("not a letter from a to z");
        }
        if (!hedge.mayPlant(slot)) {
            throw new IllegalStateException("no twig can be planted in this slot");
        }
        history.remember(hedge);
        hedge.plantByHand(slot, letter);
        return hedge.countTwigs();
    }

    public int remove(int slot) throws IndexOutOfBoundsException, IllegalStateException {
        requireSlot(slot);
        if (!hedge.mayRemove(slot)) {
            throw new IllegalStateException("no twig can be removed from this slot");
        }
        history.remember(hedge);
        int letter = hedge.letters.get(slot);
        hedge.removeByHand(slot);
        return letter;
    }

    public int trim(int slot, int cm)
            throws IndexOutOfBoundsException, IllegalArgumentException, IllegalStateException {
        requireSlot(slot);
        if (cm < 1 || cm > MAX_LENGTH) {
            throw new IllegalArgumentException("not 1 to 99 centimetres");
        }
        if (!hedge.mayTrim(slot)) {
            throw new IllegalStateException("no twig can be trimmed in this slot");
        }
        history.remember(hedge);
        hedge.trimByHand(slot, cm);
        return hedge.lengths.get(slot);
    }

    public int addNest(int slot, int days)
            throws IndexOutOfBoundsException, IllegalArgumentException, IllegalStateException {
        requireSlot(slot);
        if (days < 1 || days > MAX_NEST_DAYS) {
            throw new IllegalArgumentException("not 1 to 30 days");
        }
        if (!hedge.mayNest(slot)) {
            throw new IllegalStateException("there are 6 nests or the slot has one");
        }
        history.remember(hedge);
        hedge.placeNest(slot, days);
        return hedge.countNests();
    }

    public int queueMessage(int gardener) throws IllegalArgumentException, IllegalStateException {
        requireGardener(gardener);
        if (!text.isOneWord()) {
            throw new IllegalArgumentException("the input buffer is not a word of 1 to 12 letters");
        }
        if (!hedge.mayQueue(gardener)) {
            throw new IllegalStateException("the queue has 8 messages");
        }
        history.remember(hedge);
        hedge.receive(gardener, text.bytes, 0, text.length);
        text.length = 0;
        return hedge.gardener(gardener).pending;
    }

    public int cancelMessage(int gardener, int message)
            throws IllegalArgumentException, IndexOutOfBoundsException {
        requireGardener(gardener);
        if (!hedge.mayCancel(gardener, message)) {
            throw new IndexOutOfBoundsException("no such message");
        }
        history.remember(hedge);
        int length = hedge.gardener(gardener).lengthOf(message);
        hedge.gardener(gardener).cancel(message);
        return length;
    }

    public int setWorkLimit(int limit) throws IllegalArgumentException {
        if (limit < 1 || limit > MAX_WORK_LIMIT) {
            throw new IllegalArgumentException("not a work limit from 1 to 12");
        }
        history.remember(hedge);
        int previous = hedge.workLimit;
        hedge.workLimit = limit;
        return previous;
    }

    public int endDays(int days) throws IllegalArgumentException {
        requireDays(days, 1);
        history.remember(hedge);
        int before = hedge.first.delivered + hedge.second.delivered;
        for (int ended = 0; ended < days; ended++) {
            hedge.endOneDay();
        }
        return hedge.first.delivered + hedge.second.delivered - before;
    }

    public int undo() throws IllegalStateException {
        if (history.count == 0) {
            throw new IllegalStateException("there is no operation to undo");
        }
        history.takeBack(hedge);
        return history.count;
    }

    // ---- Saving and the output ----

    public int save() {
        saved.copyFrom(hedge);
        hasSaved = true;
        return hedge.day;
    }

    public int restore() throws IllegalStateException {
        if (!hasSaved) {
            throw new IllegalStateException("there is no saved state");
        }
        hedge.copyFrom(saved);
        history.forget();
        return hedge.day;
    }

    public int formatHedge() {
        for (int slot = 0; slot < hedge.slots; slot++) {
            output.set(slot, hedge.signOf(slot));
        }
        outputLength = hedge.slots;
        return outputLength;
    }

    public int outputByte(int index) {
        return index >= 0 && index < outputLength ? output.get(index) : NONE;
    }

    // ---- Helpers of the face ----

    private void requireSlot(int slot) {
        if (!hedge.hasSlot(slot)) {
            throw new IndexOutOfBoundsException("no such slot");
        }
    }

    private static void requireGardener(int gardener) {
        if (gardener != 0 && gardener != 1) {
            throw new IllegalArgumentException("not gardener 0 or 1");
        }
    }

    private static void requireDays(int days, int fewest) {
        if (days < fewest || days > MAX_DAYS) {
            throw new IllegalArgumentException("number of days out of range");
        }
    }

    private static boolean isLetter(int sign) {
        return sign >= 'a' && sign <= 'z';
    }

    private static boolean isDigit(int sign) {
        return sign >= '0' && sign <= '9';
    }

    /** Leaves in scratch what the hedge is after so many days without any operation. */
    private void foresee(int days) {
        scratch.copyFrom(hedge);
        for (int ended = 0; ended < days; ended++) {
            scratch.endOneDay();
        }
    }

    private boolean suffices(int limit, int gardener, int days) {
        scratch.copyFrom(hedge);
        scratch.workLimit = limit;
        // Without operations a gardener who has no message left gets none, so the rest can be skipped.
        for (int ended = 0; ended < days && scratch.hasMessages(gardener); ended++) {
            scratch.endOneDay();
        }
        return !scratch.hasMessages(gardener);
    }

    /** Executes one command of the list, or answers false if its method would throw. */
    private boolean perform(int command) {
        CommandForm form = commands.formOf(command);
        if (form == null) {
            return false;
        }
        int argument = commands.arguments.get(command);
        int second = commands.seconds.get(command);
        switch (form) {
            case PLANT:
            case REMOVE:
            case TRIM:
            case NEST:
                return performOnSlot(form, argument, second);
            case MESSAGE:
                if (!hedge.mayQueue(argument)) {
                    return false;
                }
                hedge.receive(argument, text.bytes, second, commands.wordLengths.get(command));
                return true;
            case CANCEL:
                if (!hedge.mayCancel(argument, second)) {
                    return false;
                }
                hedge.gardener(argument).cancel(second);
                return true;
            case WORK:
                hedge.workLimit = argument;
                return true;
            case END:
                for (int ended = 0; ended < argument; ended++) {
                    hedge.endOneDay();
                }
                return true;
            default:
                return false;
        }
    }

    private boolean performOnSlot(CommandForm form, int slot, int second) {
        if (!hedge.hasSlot(slot)) {
            return false;
        }
        if (form == CommandForm.PLANT && hedge.mayPlant(slot)) {
            hedge.plantByHand(slot, second);
        } else if (form == CommandForm.REMOVE && hedge.mayRemove(slot)) {
            hedge.removeByHand(slot);
        } else if (form == CommandForm.TRIM && hedge.mayTrim(slot)) {
            hedge.trimByHand(slot, second);
        } else if (form == CommandForm.NEST && hedge.mayNest(slot)) {
            hedge.placeNest(slot, second);
        } else {
            return false;
        }
        return true;
    }

    /** Numbers in a row. Outside its bounds it reads as 0 and takes nothing, so no index can fail. */
    private static final class Row {
        private final int[] cells;

        Row(int size) {
            cells = new int[size > 0 ? size : 0];
        }

        int get(int index) {
            return index >= 0 && index < cells.length ? cells[index] : 0;
        }

        void set(int index, int value) {
            if (index >= 0 && index < cells.length) {
                cells[index] = value;
            }
        }

        void clear() {
            for (int index = 0; index < cells.length; index++) {
                cells[index] = 0;
            }
        }

        void copyFrom(Row source) {
            copyPart(source, 0, 0, cells.length);
        }

        void copyPart(Row source, int from, int to, int count) {
            boolean inSource = from >= 0 && count >= 0 && from <= source.cells.length - count;
            if (inSource && to >= 0 && to <= cells.length - count) {
                System.arraycopy(source.cells, from, cells, to, count);
            }
        }
    }

    /** What one gardener has: the queue, the message in progress (length 0 if none) and the counters. */
    private static final class Gardener {
        private final Row letters;
        private final Row lengths;
        private int pending;
        private int start;
        private int length;
        private int written;
        private int queued;
        private int delivered;
        private int failed;
        private int dropped;

        Gardener() {
            letters = new Row(MAX_PENDING * MAX_WORD);
            lengths = new Row(MAX_PENDING);
        }

        void clear() {
            pending = 0;
            stopWriting();
            queued = 0;
            delivered = 0;
            failed = 0;
            dropped = 0;
        }

        void copyFrom(Gardener source) {
            letters.copyFrom(source.letters);
            lengths.copyFrom(source.lengths);
            pending = source.pending;
            start = source.start;
            length = source.length;
            written = source.written;
            queued = source.queued;
            delivered = source.delivered;
            failed = source.failed;
            dropped = source.dropped;
        }

        boolean isWriting() {
            return length > 0;
        }

        void stopWriting() {
            start = 0;
            length = 0;
            written = 0;
        }

        boolean hasPending(int message) {
            return message >= 0 && message < pending;
        }

        int lengthOf(int message) {
            return hasPending(message) ? lengths.get(message) : 0;
        }

        int letterOf(int message, int index) {
            return index >= 0 && index < lengthOf(message) ? letters.get(message * MAX_WORD + index) : NONE;
        }

        void enqueue(Row source, int from, int count) {
            letters.copyPart(source, from, pending * MAX_WORD, count);
            lengths.set(pending, count);
            pending++;
        }

        void dequeue(int message) {
            int behind = pending - message - 1;
            letters.copyPart(letters, (message + 1) * MAX_WORD, message * MAX_WORD, behind * MAX_WORD);
            lengths.copyPart(lengths, message + 1, message, behind);
            pending--;
        }

        void cancel(int message) {
            dequeue(message);
            dropped++;
        }

        int queuedMinusSettled() {
            return queued - (delivered + dropped + pending + (isWriting() ? 1 : 0));
        }
    }

    /** The posted messages in the order in which they were posted. */
    private static final class PostedMessages {
        private final Row senders;
        private final Row starts;
        private final Row lengths;
        private int count;

        PostedMessages() {
            // Between two messages there is always a slot of neither.
            senders = new Row(MAX_SLOTS / 2);
            starts = new Row(MAX_SLOTS / 2);
            lengths = new Row(MAX_SLOTS / 2);
        }

        void copyFrom(PostedMessages source) {
            senders.copyFrom(source.senders);
            starts.copyFrom(source.starts);
            lengths.copyFrom(source.lengths);
            count = source.count;
        }

        int countOf(int sender) {
            int found = 0;
            for (int message = 0; message < count; message++) {
                if (senders.get(message) == sender) {
                    found++;
                }
            }
            return found;
        }

        void post(int sender, int start, int length) {
            senders.set(count, sender);
            starts.set(count, start);
            lengths.set(count, length);
            count++;
        }

        /** Shortens the list to nothing; messages that stay are then kept one after the other. */
        int startSifting() {
            int before = count;
            count = 0;
            return before;
        }

        void keep(int message) {
            post(senders.get(message), starts.get(message), lengths.get(message));
        }
    }

    /** The hedge with its queues, its day and its counters: all that save, undo and forecasts copy. */
    private static final class Hedge {
        private int slots;
        private int workLimit;
        private int growth;
        private int legalLength;
        private int interval;
        private int yardSize;
        private int day;
        private int actions;
        private final Row letters;
        private final Row owners;
        /** Length 0: no twig. */
        private final Row lengths;
        private final Row nests;
        /** The letter that a message has or will have in the slot; 0 if the slot is not reserved. */
        private final Row booked;
        private final Gardener first;
        private final Gardener second;
        private final PostedMessages posted;
        private int planted;
        private int pruned;
        private int removed;

        Hedge() {
            letters = new Row(MAX_SLOTS);
            owners = new Row(MAX_SLOTS);
            lengths = new Row(MAX_SLOTS);
            nests = new Row(MAX_SLOTS);
            booked = new Row(MAX_SLOTS);
            first = new Gardener();
            second = new Gardener();
            posted = new PostedMessages();
        }

        void copyFrom(Hedge source) {
            slots = source.slots;
            workLimit = source.workLimit;
            growth = source.growth;
            legalLength = source.legalLength;
            interval = source.interval;
            yardSize = source.yardSize;
            day = source.day;
            actions = source.actions;
            letters.copyFrom(source.letters);
            owners.copyFrom(source.owners);
            lengths.copyFrom(source.lengths);
            nests.copyFrom(source.nests);
            booked.copyFrom(source.booked);
            first.copyFrom(source.first);
            second.copyFrom(source.second);
            posted.copyFrom(source.posted);
            planted = source.planted;
            pruned = source.pruned;
            removed = source.removed;
        }

        // -- Building --

        void layOut(int slots, int workLimit, int growth, int legalLength, int interval, int yardSize) {
            this.slots = slots;
            this.workLimit = workLimit;
            this.growth = growth;
            this.legalLength = legalLength;
            this.interval = interval;
            this.yardSize = yardSize;
            day = 0;
            actions = workLimit;
            letters.clear();
            owners.clear();
            lengths.clear();
            nests.clear();
            booked.clear();
            first.clear();
            second.clear();
            posted.count = 0;
            planted = 0;
            pruned = 0;
            removed = 0;
        }

        void placeTwig(int slot, int letter, int owner, int length) {
            letters.set(slot, letter);
            owners.set(slot, owner);
            lengths.set(slot, length);
            planted++;
        }

        void placeNest(int slot, int days) {
            nests.set(slot, days);
        }

        void receive(int sender, Row source, int from, int count) {
            Gardener author = gardener(sender);
            author.enqueue(source, from, count);
            author.queued++;
        }

        void receiveText(int sender, String word) {
            Row signs = new Row(word.length());
            for (int index = 0; index < word.length(); index++) {
                signs.set(index, word.charAt(index));
            }
            receive(sender, signs, 0, word.length());
        }

        // -- Looking --

        boolean hasSlot(int slot) {
            return slot >= 0 && slot < slots;
        }

        boolean hasTwig(int slot) {
            return lengths.get(slot) > 0;
        }

        boolean isBooked(int slot) {
            return booked.get(slot) > 0;
        }

        boolean isGuarded(int slot) {
            return nests.get(slot - 1) > 0 || nests.get(slot) > 0 || nests.get(slot + 1) > 0;
        }

        Gardener gardener(int number) {
            return number == 0 ? first : second;
        }

        int active() {
            return day & 1;
        }

        int countTwigs() {
            int found = 0;
            for (int slot = 0; slot < slots; slot++) {
                if (lengths.get(slot) > 0) {
                    found++;
                }
            }
            return found;
        }

        int countTwigsInYard(int yard) {
            int found = 0;
            for (int slot = 0; slot < slots && yardSize > 0; slot++) {
                if (slot / yardSize == yard && lengths.get(slot) > 0) {
                    found++;
                }
            }
            return found;
        }

        int sumOfLengths() {
            int sum = 0;
            for (int slot = 0; slot < slots; slot++) {
                sum += lengths.get(slot);
            }
            return sum;
        }

        int countNests() {
            int found = 0;
            for (int slot = 0; slot < slots; slot++) {
                if (nests.get(slot) > 0) {
                    found++;
                }
            }
            return found;
        }

        int longestRun() {
            int longest = 0;
            int run = 0;
            for (int slot = 0; slot < slots; slot++) {
                boolean free = !hasTwig(slot) && !isBooked(slot) && nests.get(slot) == 0;
                run = free ? run + 1 : 0;
                longest = run > longest ? run : longest;
            }
            return longest;
        }

        /** The start slot of a message of this length, or NONE; a length of 0 stands for no message. */
        int findStart(int length) {
            int start = 0;
            for (int slot = 0; length > 0 && slot < slots; slot++) {
                if (lengths.get(slot) > 0 || booked.get(slot) > 0) {
                    // The slot behind a twig may not be the first one of a message.
                    start = slot + 2;
                } else if (nests.get(slot) > 0) {
                    start = slot + 1;
                } else if (slot - start + 1 >= length
                        // Beyond the end of the hedge nothing is ever planted or reserved.
                        && lengths.get(slot + 1) == 0 && booked.get(slot + 1) == 0) {
                    return start;
                }
            }
            return NONE;
        }

        boolean hasMessages(int gardener) {
            Gardener author = gardener(gardener);
            return author.pending > 0 || author.isWriting() || posted.countOf(gardener) > 0;
        }

        int daysToInspection() {
            return interval > 0 ? interval - day % interval : 1;
        }

        int signOf(int slot) {
            if (hasTwig(slot)) {
                int letter = letters.get(slot);
                return owners.get(slot) == 1 ? letter - 'a' + 'A' : letter;
            }
            if (isBooked(slot)) {
                return '=';
            }
            return nests.get(slot) > 0 ? '*' : '.';
        }

        int countWrongLetters() {
            int wrong = wrongIn(0, first.start, first.written) + wrongIn(1, second.start, second.written);
            for (int message = 0; message < posted.count; message++) {
                wrong += wrongIn(posted.senders.get(message), posted.starts.get(message),
                        posted.lengths.get(message));
            }
            return wrong;
        }

        private int wrongIn(int sender, int start, int written) {
            int wrong = 0;
            for (int slot = start; slot < start + written; slot++) {
                boolean right = hasTwig(slot) && letters.get(slot) == booked.get(slot)
                        && owners.get(slot) == sender;
                wrong += right ? 0 : 1;
            }
            return wrong;
        }

        int bestSlotForNest() {
            if (countNests() >= MAX_NESTS) {
                return NONE;
            }
            int best = NONE;
            int most = -1;
            for (int slot = 0; slot < slots; slot++) {
                int saves = wouldSave(slot - 1) + wouldSave(slot) + wouldSave(slot + 1);
                if (nests.get(slot) == 0 && saves > most) {
                    best = slot;
                    most = saves;
                }
            }
            return best;
        }

        private int wouldSave(int slot) {
            return reasonNotToPrune(slot) == ALLOWED ? 1 : 0;
        }

        // -- Reasons and permissions --

        int reasonNotToPlant(int slot) {
            if (actions <= 0) {
                return NO_ACTIONS_LEFT;
            }
            if (hasTwig(slot)) {
                return SLOT_TAKEN;
            }
            if (isBooked(slot)) {
                return SLOT_RESERVED;
            }
            return nests.get(slot) > 0 ? NEST_IN_SLOT : ALLOWED;
        }

        int reasonNotToRemove(int slot) {
            int reason = reasonNotToTouch(slot);
            if (reason != ALLOWED) {
                return reason;
            }
            // A reserved slot takes no other twig than that of its message.
            if (isBooked(slot)) {
                return PART_OF_MESSAGE;
            }
            return isGuarded(slot) ? PROTECTED : ALLOWED;
        }

        int reasonNotToTrim(int slot) {
            int reason = reasonNotToTouch(slot);
            if (reason != ALLOWED) {
                return reason;
            }
            return isGuarded(slot) ? PROTECTED : ALLOWED;
        }

        private int reasonNotToTouch(int slot) {
            if (actions <= 0) {
                return NO_ACTIONS_LEFT;
            }
            if (lengths.get(slot) == 0) {
                return SLOT_EMPTY;
            }
            return owners.get(slot) == active() ? ALLOWED : NOT_OWNER;
        }

        int reasonNotToWrite(int gardener) {
            if (gardener != active()) {
                return NOT_ACTIVE;
            }
            if (actions <= 0) {
                return NO_ACTIONS_LEFT;
            }
            Gardener writer = gardener(gardener);
            if (writer.isWriting()) {
                return ALLOWED;
            }
            if (writer.pending == 0) {
                return NOTHING_TO_WRITE;
            }
            return findStart(writer.lengthOf(0)) == NONE ? NO_START_SLOT : ALLOWED;
        }

        int reasonNotToPrune(int slot) {
            if (!hasTwig(slot)) {
                return SLOT_EMPTY;
            }
            if (lengths.get(slot) <= legalLength) {
                return SHORT_ENOUGH;
            }
            return isGuarded(slot) ? PROTECTED : ALLOWED;
        }

        boolean mayPlant(int slot) {
            return reasonNotToPlant(slot) == ALLOWED;
        }

        boolean mayRemove(int slot) {
            return reasonNotToRemove(slot) == ALLOWED;
        }

        boolean mayTrim(int slot) {
            return reasonNotToTrim(slot) == ALLOWED;
        }

        boolean mayNest(int slot) {
            return countNests() < MAX_NESTS && nests.get(slot) == 0;
        }

        boolean mayQueue(int gardener) {
            return gardener(gardener).pending < MAX_PENDING;
        }

        boolean mayCancel(int gardener, int message) {
            return gardener(gardener).hasPending(message);
        }

        // -- The active gardener's work by hand --

        void plantByHand(int slot, int letter) {
            placeTwig(slot, letter, active(), 1);
            actions--;
        }

        void removeByHand(int slot) {
            lengths.set(slot, 0);
            removed++;
            actions--;
        }

        void trimByHand(int slot, int cm) {
            int rest = lengths.get(slot) - cm;
            lengths.set(slot, rest < 1 ? 1 : rest);
            actions--;
        }

        // -- The end of a day --

        void endOneDay() {
            deliverPosted(1 - active());
            writeLetters(active());
            grow();
            day++;
            actions = workLimit;
            if (interval > 0 && day % interval == 0) {
                prune();
                failInProgress(0);
                failInProgress(1);
                failPosted();
            }
        }

        private void deliverPosted(int sender) {
            int before = posted.startSifting();
            for (int message = 0; message < before; message++) {
                if (posted.senders.get(message) == sender) {
                    clearMessage(posted.starts.get(message), posted.lengths.get(message));
                    gardener(sender).delivered++;
                } else {
                    posted.keep(message);
                }
            }
        }

        private void clearMessage(int start, int length) {
            for (int slot = start; slot < start + length; slot++) {
                if (lengths.get(slot) > 0) {
                    lengths.set(slot, 0);
                    removed++;
                }
                booked.set(slot, 0);
            }
        }

        private void writeLetters(int active) {
            Gardener writer = gardener(active);
            while (actions > 0 && (writer.isWriting() || startNext(writer))) {
                int slot = writer.start + writer.written;
                placeTwig(slot, booked.get(slot), active, 1);
                writer.written++;
                if (writer.written >= writer.length) {
                    posted.post(active, writer.start, writer.length);
                    writer.stopWriting();
                }
                actions--;
            }
        }

        private boolean startNext(Gardener writer) {
            int length = writer.lengthOf(0);
            int start = findStart(length);
            if (start == NONE) {
                return false;
            }
            booked.copyPart(writer.letters, 0, start, length);
            writer.start = start;
            writer.length = length;
            writer.dequeue(0);
            return true;
        }

        private void grow() {
            for (int slot = 0; slot < slots; slot++) {
                int length = lengths.get(slot);
                if (length > 0) {
                    lengths.set(slot, length + growth);
                }
                int days = nests.get(slot);
                if (days > 0) {
                    nests.set(slot, days - 1);
                }
            }
        }

        private void prune() {
            for (int slot = 0; slot < slots; slot++) {
                if (reasonNotToPrune(slot) == ALLOWED) {
                    lengths.set(slot, 0);
                    pruned++;
                }
            }
        }

        private void failInProgress(int sender) {
            Gardener writer = gardener(sender);
            if (lostTwig(writer.start, writer.written)) {
                fail(sender, writer.start, writer.length);
                writer.stopWriting();
            }
        }

        private void failPosted() {
            int before = posted.startSifting();
            for (int message = 0; message < before; message++) {
                int start = posted.starts.get(message);
                int length = posted.lengths.get(message);
                if (lostTwig(start, length)) {
                    fail(posted.senders.get(message), start, length);
                } else {
                    posted.keep(message);
                }
            }
        }

        private boolean lostTwig(int start, int written) {
            for (int slot = start; slot < start + written; slot++) {
                if (lengths.get(slot) == 0) {
                    return true;
                }
            }
            return false;
        }

        private void fail(int sender, int start, int length) {
            Gardener author = gardener(sender);
            author.failed++;
            if (author.pending < MAX_PENDING) {
                author.enqueue(booked, start, length);
            } else {
                author.dropped++;
            }
            clearMessage(start, length);
        }
    }

    /** The states before the most recent operations, the oldest overwritten by the newest. */
    private static final class History {
        private final Hedge[] states;
        private int next;
        private int count;

        History() {
            states = new Hedge[MAX_UNDO];
            for (int index = 0; index < states.length; index++) {
                states[index] = new Hedge();
            }
        }

        void forget() {
            count = 0;
        }

        void remember(Hedge hedge) {
            Hedge place = stateAt(next);
            if (place != null) {
                place.copyFrom(hedge);
            }
            next = next + 1 < MAX_UNDO ? next + 1 : 0;
            count = count < MAX_UNDO ? count + 1 : count;
        }

        void takeBack(Hedge hedge) {
            next = next > 0 ? next - 1 : MAX_UNDO - 1;
            count--;
            Hedge place = stateAt(next);
            if (place != null) {
                hedge.copyFrom(place);
            }
        }

        private Hedge stateAt(int index) {
            return index >= 0 && index < states.length ? states[index] : null;
        }
    }

    /** The input buffer, and the reading of it token by token up to the first error. */
    private static final class Text {
        private static final int END = 0;
        private static final int WORD = 1;
        private static final int NUMBER = 2;
        private static final int SEMICOLON = 3;
        private static final int INVALID = 4;
        private static final int MAX_DIGITS = 3;

        private final Row bytes;
        private int length;
        private int position;
        private int kind;
        private int start;
        private int size;
        private int value;
        private int errorCode;
        private int errorPosition;

        Text() {
            bytes = new Row(MAX_TEXT);
            errorPosition = NONE;
        }

        void appendBytes(int four) {
            bytes.set(length, four >>> 24 & 255);
            bytes.set(length + 1, four >>> 16 & 255);
            bytes.set(length + 2, four >>> 8 & 255);
            bytes.set(length + 3, four & 255);
            length += 4;
        }

        boolean isOneWord() {
            if (length < 1 || length > MAX_WORD) {
                return false;
            }
            for (int index = 0; index < length; index++) {
                if (!isLetter(bytes.get(index))) {
                    return false;
                }
            }
            return true;
        }

        void startReading() {
            position = 0;
            errorCode = 0;
            errorPosition = NONE;
        }

        /** Notes an error of the current token; always false, so that readers can answer it on. */
        boolean refuse(int code) {
            errorCode = code;
            errorPosition = start;
            return false;
        }

        void readToken() {
            while (position < length && bytes.get(position) == ' ') {
                position++;
            }
            start = position;
            int sign = bytes.get(position);
            if (position >= length) {
                kind = END;
            } else if (isLetter(sign)) {
                kind = WORD;
                while (position < length && isLetter(bytes.get(position))) {
                    position++;
                }
            } else if (isDigit(sign)) {
                kind = NUMBER;
                while (position < length && isDigit(bytes.get(position))) {
                    position++;
                }
            } else {
                kind = sign == ';' ? SEMICOLON : INVALID;
                position++;
            }
            size = position - start;
        }

        boolean atEnd() {
            return kind == END;
        }

        boolean isWord(String word) {
            if (kind != WORD || size != word.length()) {
                return false;
            }
            for (int index = 0; index < word.length(); index++) {
                if (bytes.get(start + index) != word.charAt(index)) {
                    return false;
                }
            }
            return true;
        }

        /** Reads a number of the range into value. */
        boolean readNumber(int low, int high) {
            readToken();
            if (kind != NUMBER || size > MAX_DIGITS) {
                return refuse(SYNTAX_ERROR);
            }
            value = 0;
            for (int index = start; index < start + size; index++) {
                value = value * 10 + bytes.get(index) - '0';
            }
            return value >= low && value <= high || refuse(RANGE_ERROR);
        }

        boolean readMessageWord() {
            readToken();
            return kind == WORD && size <= MAX_WORD || refuse(SYNTAX_ERROR);
        }

        /** Reads a single letter into value. */
        boolean readLetter() {
            readToken();
            value = bytes.get(start);
            return kind == WORD && size == 1 || refuse(SYNTAX_ERROR);
        }

        boolean readSemicolon() {
            readToken();
            return kind == SEMICOLON || refuse(SYNTAX_ERROR);
        }
    }

    /** Reads a configuration text; false means that the text has noted an error. */
    private static final class Configuration {
        private Configuration() {
        }

        static boolean read(Text text, Hedge target) {
            text.startReading();
            if (!readHedge(text, target)) {
                return false;
            }
            // Each statement takes at least one byte, so the text ends before the counter does.
            for (int statement = 0; statement <= MAX_TEXT; statement++) {
                text.readToken();
                if (text.atEnd()) {
                    return true;
                }
                if (!readStatement(text, target)) {
                    return false;
                }
            }
            return true;
        }

        private static boolean readHedge(Text text, Hedge target) {
            text.readToken();
            if (!text.isWord("hedge")) {
                return text.refuse(SYNTAX_ERROR);
            }
            if (!text.readNumber(MIN_SLOTS, MAX_SLOTS)) {
                return false;
            }
            int slots = text.value;
            if (!text.readNumber(1, MAX_WORK_LIMIT)) {
                return false;
            }
            int workLimit = text.value;
            if (!text.readNumber(0, MAX_GROWTH)) {
                return false;
            }
            int growth = text.value;
            if (!text.readNumber(1, MAX_LENGTH)) {
                return false;
            }
            int legalLength = text.value;
            if (!text.readNumber(1, MAX_INTERVAL)) {
                return false;
            }
            int interval = text.value;
            if (!text.readNumber(1, MAX_YARD)) {
                return false;
            }
            int yardSize = text.value;
            target.layOut(slots, workLimit, growth, legalLength, interval, yardSize);
            return text.readSemicolon();
        }

        private static boolean readStatement(Text text, Hedge target) {
            if (text.isWord("twig")) {
                return readTwig(text, target);
            }
            if (text.isWord("nest")) {
                return readNest(text, target);
            }
            if (text.isWord("message")) {
                return readMessage(text, target);
            }
            return text.refuse(SYNTAX_ERROR);
        }

        private static boolean readTwig(Text text, Hedge target) {
            if (!text.readNumber(0, target.slots - 1)) {
                return false;
            }
            int slot = text.value;
            if (target.hasTwig(slot)) {
                return text.refuse(CONFLICT_ERROR);
            }
            if (!text.readLetter()) {
                return false;
            }
            int letter = text.value;
            if (!text.readNumber(0, 1)) {
                return false;
            }
            int owner = text.value;
            if (!text.readNumber(1, MAX_LENGTH)) {
                return false;
            }
            target.placeTwig(slot, letter, owner, text.value);
            return text.readSemicolon();
        }

        private static boolean readNest(Text text, Hedge target) {
            if (!text.readNumber(0, target.slots - 1)) {
                return false;
            }
            int slot = text.value;
            if (target.nests.get(slot) > 0) {
                return text.refuse(CONFLICT_ERROR);
            }
            if (target.countNests() >= MAX_NESTS) {
                return text.refuse(LIMIT_ERROR);
            }
            if (!text.readNumber(1, MAX_NEST_DAYS)) {
                return false;
            }
            target.placeNest(slot, text.value);
            return text.readSemicolon();
        }

        private static boolean readMessage(Text text, Hedge target) {
            if (!text.readNumber(0, 1)) {
                return false;
            }
            int sender = text.value;
            if (!text.readMessageWord()) {
                return false;
            }
            if (!target.mayQueue(sender)) {
                return text.refuse(LIMIT_ERROR);
            }
            target.receive(sender, text.bytes, text.start, text.size);
            return text.readSemicolon();
        }
    }

    /** The name of a command and the ranges of what follows it. */
    private enum CommandForm {
        PLANT("plant", 0, MAX_SLOTS - 1, CommandList.LETTER, 0),
        REMOVE("remove", 0, MAX_SLOTS - 1, CommandList.NOTHING, 0),
        TRIM("trim", 0, MAX_SLOTS - 1, 1, MAX_LENGTH),
        NEST("nest", 0, MAX_SLOTS - 1, 1, MAX_NEST_DAYS),
        MESSAGE("message", 0, 1, CommandList.WORD, 0),
        CANCEL("cancel", 0, 1, 0, MAX_PENDING - 1),
        WORK("work", 1, MAX_WORK_LIMIT, CommandList.NOTHING, 0),
        END("end", 1, MAX_DAYS, CommandList.NOTHING, 0);

        private final String word;
        private final int low;
        private final int high;
        /** The lowest second number, or what stands in place of a second number. */
        private final int second;
        private final int secondHigh;

        CommandForm(String word, int low, int high, int second, int secondHigh) {
            this.word = word;
            this.low = low;
            this.high = high;
            this.second = second;
            this.secondHigh = secondHigh;
        }
    }

    /** The commands of one text, read before the first of them is executed. */
    private static final class CommandList {
        private static final int NOTHING = -1;
        private static final int LETTER = -2;
        private static final int WORD = -3;

        private final CommandForm[] forms;
        private final Row arguments;
        /** The second number, the letter, or where the word starts in the text. */
        private final Row seconds;
        private final Row wordLengths;
        private int count;

        CommandList() {
            forms = new CommandForm[MAX_COMMANDS];
            arguments = new Row(MAX_COMMANDS);
            seconds = new Row(MAX_COMMANDS);
            wordLengths = new Row(MAX_COMMANDS);
        }

        CommandForm formOf(int command) {
            return command >= 0 && command < forms.length ? forms[command] : null;
        }

        /** False means that the text has noted an error. */
        boolean read(Text text) {
            text.startReading();
            count = 0;
            for (int command = 0; command <= MAX_COMMANDS; command++) {
                text.readToken();
                if (text.atEnd()) {
                    return true;
                }
                CommandForm form = formNamedBy(text);
                if (form == null) {
                    return text.refuse(SYNTAX_ERROR);
                }
                if (command >= forms.length) {
                    return text.refuse(LIMIT_ERROR);
                }
                forms[command] = form;
                if (!readArguments(text, form, command) || !text.readSemicolon()) {
                    return false;
                }
                count = command + 1;
            }
            return true;
        }

        private static CommandForm formNamedBy(Text text) {
            for (int index = 0; index < COMMAND_FORMS.length; index++) {
                CommandForm form = COMMAND_FORMS[index];
                if (text.isWord(form.word)) {
                    return form;
                }
            }
            return null;
        }

        private boolean readArguments(Text text, CommandForm form, int command) {
            if (!text.readNumber(form.low, form.high)) {
                return false;
            }
            arguments.set(command, text.value);
            if (form.second == NOTHING) {
                return true;
            }
            if (form.second == WORD) {
                boolean read = text.readMessageWord();
                seconds.set(command, text.start);
                wordLengths.set(command, text.size);
                return read;
            }
            boolean read = form.second == LETTER ? text.readLetter()
                    : text.readNumber(form.second, form.secondHigh);
            seconds.set(command, text.value);
            return read;
        }
    }
}
