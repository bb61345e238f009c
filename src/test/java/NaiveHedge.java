import java.util.ArrayDeque;
import java.util.ArrayList;
import java.util.Deque;
import java.util.IdentityHashMap;
import java.util.List;
import java.util.Map;

/**
 * A second telling of the document, made of lists and objects and with no care for speed or room, so that
 * ModelTest can compare the two. It bears the names of the face because it is called by them.
 */
public final class NaiveHedge {
    private static final class ParseError extends RuntimeException {
        private static final long serialVersionUID = 1;
        private final int code;
        private final int position;

        ParseError(int code, int position) {
            this.code = code;
            this.position = position;
        }
    }

    private static final class Message {
        private int sender;
        private String word;
        private int start = -1;
        private int written;

        boolean reserves(int slot) {
            return start >= 0 && slot >= start && slot < start + word.length();
        }
    }

    private static final class Twig {
        private int letter;
        private int owner;
        private int length;
        /** Null if it was planted by hand. */
        private Message message;
    }

    private static final class State {
        private int slots;
        private int limit;
        private int growth;
        private int legal;
        private int interval;
        private int yard;
        private int day;
        private int actions;
        private Twig[] twigs;
        private int[] nests;
        private List<List<Message>> queues = List.of(new ArrayList<>(), new ArrayList<>());
        private Message[] current = new Message[2];
        private List<Message> posted = new ArrayList<>();
        private int[] queued = new int[2];
        private int[] delivered = new int[2];
        private int[] failed = new int[2];
        private int[] dropped = new int[2];
        private int planted;
        private int pruned;
        private int removed;

        State(int slots, int limit, int growth, int legal, int interval, int yard) {
            this.slots = slots;
            this.limit = limit;
            this.growth = growth;
            this.legal = legal;
            this.interval = interval;
            this.yard = yard;
            actions = limit;
            twigs = new Twig[slots];
            nests = new int[slots];
        }

        State copy() {
            State copy = new State(slots, limit, growth, legal, interval, yard);
            Map<Message, Message> copies = new IdentityHashMap<>();
            copy.day = day;
            copy.actions = actions;
            copy.nests = nests.clone();
            for (int gardener = 0; gardener < 2; gardener++) {
                for (Message message : queues.get(gardener)) {
                    copy.queues.get(gardener).add(copyOf(message, copies));
                }
                copy.current[gardener] = copyOf(current[gardener], copies);
            }
            for (Message message : posted) {
                copy.posted.add(copyOf(message, copies));
            }
            for (int slot = 0; slot < slots; slot++) {
                if (twigs[slot] != null) {
                    Twig twig = new Twig();
                    twig.letter = twigs[slot].letter;
                    twig.owner = twigs[slot].owner;
                    twig.length = twigs[slot].length;
                    twig.message = copyOf(twigs[slot].message, copies);
                    copy.twigs[slot] = twig;
                }
            }
            copy.queued = queued.clone();
            copy.delivered = delivered.clone();
            copy.failed = failed.clone();
            copy.dropped = dropped.clone();
            copy.planted = planted;
            copy.pruned = pruned;
            copy.removed = removed;
            return copy;
        }

        private static Message copyOf(Message message, Map<Message, Message> copies) {
            if (message == null) {
                return null;
            }
            return copies.computeIfAbsent(message, original -> {
                Message copy = new Message();
                copy.sender = original.sender;
                copy.word = original.word;
                copy.start = original.start;
                copy.written = original.written;
                return copy;
            });
        }

        boolean reserved(int slot) {
            for (Message message : current) {
                if (message != null && message.reserves(slot)) {
                    return true;
                }
            }
            return posted.stream().anyMatch(message -> message.reserves(slot));
        }

        boolean free(int slot) {
            return twigs[slot] == null && !reserved(slot) && nests[slot] == 0;
        }

        boolean untouched(int slot) {
            return slot < 0 || slot >= slots || twigs[slot] == null && !reserved(slot);
        }

        boolean guarded(int slot) {
            return nests[slot] > 0 || slot > 0 && nests[slot - 1] > 0 || slot < slots - 1 && nests[slot + 1] > 0;
        }

        int nestCount() {
            int count = 0;
            for (int days : nests) {
                count += days > 0 ? 1 : 0;
            }
            return count;
        }

        int twigCount() {
            int count = 0;
            for (Twig twig : twigs) {
                count += twig != null ? 1 : 0;
            }
            return count;
        }

        int startFor(String word) {
            for (int start = 0; start + word.length() <= slots; start++) {
                boolean fits = untouched(start - 1) && untouched(start + word.length());
                for (int slot = start; slot < start + word.length(); slot++) {
                    fits = fits && free(slot);
                }
                if (fits) {
                    return start;
                }
            }
            return -1;
        }

        void plant(int slot, int letter, int owner, int length, Message message) {
            Twig twig = new Twig();
            twig.letter = letter;
            twig.owner = owner;
            twig.length = length;
            twig.message = message;
            twigs[slot] = twig;
            planted++;
        }

        void add(int sender, String word) {
            Message message = new Message();
            message.sender = sender;
            message.word = word;
            queues.get(sender).add(message);
            queued[sender]++;
        }

        boolean wouldPrune(int slot) {
            return twigs[slot] != null && twigs[slot].length > legal && !guarded(slot);
        }

        void endDay() {
            int active = day % 2;
            for (Message message : new ArrayList<>(posted)) {
                if (message.sender != active) {
                    posted.remove(message);
                    removeTwigsOf(message);
                    delivered[message.sender]++;
                }
            }
            while (actions > 0) {
                if (current[active] == null) {
                    if (queues.get(active).isEmpty() || startFor(queues.get(active).get(0).word) < 0) {
                        break;
                    }
                    int start = startFor(queues.get(active).get(0).word);
                    current[active] = queues.get(active).remove(0);
                    current[active].start = start;
                    current[active].written = 0;
                }
                Message message = current[active];
                plant(message.start + message.written, message.word.charAt(message.written), active, 1, message);
                message.written++;
                actions--;
                if (message.written == message.word.length()) {
                    posted.add(message);
                    current[active] = null;
                }
            }
            for (int slot = 0; slot < slots; slot++) {
                if (twigs[slot] != null) {
                    twigs[slot].length += growth;
                }
                nests[slot] = Math.max(0, nests[slot] - 1);
            }
            day++;
            actions = limit;
            if (day % interval == 0) {
                inspect();
            }
        }

        private void removeTwigsOf(Message message) {
            for (int slot = 0; slot < slots; slot++) {
                if (twigs[slot] != null && twigs[slot].message == message) {
                    twigs[slot] = null;
                    removed++;
                }
            }
        }

        private void inspect() {
            List<Message> losers = new ArrayList<>();
            for (int slot = 0; slot < slots; slot++) {
                if (wouldPrune(slot)) {
                    losers.add(twigs[slot].message);
                    twigs[slot] = null;
                    pruned++;
                }
            }
            List<Message> order = new ArrayList<>();
            order.add(current[0]);
            order.add(current[1]);
            order.addAll(posted);
            for (Message message : order) {
                if (message == null || !losers.contains(message)) {
                    continue;
                }
                removeTwigsOf(message);
                posted.remove(message);
                if (current[message.sender] == message) {
                    current[message.sender] = null;
                }
                message.start = -1;
                message.written = 0;
                failed[message.sender]++;
                if (queues.get(message.sender).size() == 8) {
                    dropped[message.sender]++;
                } else {
                    queues.get(message.sender).add(message);
                }
            }
        }
    }

    /** Reads one token after the other. */
    private static final class Tokens {
        private final String text;
        private int at;
        private int start;
        private String token = "";

        Tokens(String text) {
            this.text = text;
        }

        /** The next token, or an empty one at the end. */
        String next() {
            while (at < text.length() && text.charAt(at) == ' ') {
                at++;
            }
            start = at;
            if (at < text.length()) {
                String rest = text.substring(at);
                String word = rest.replaceFirst("(?s)[^a-z].*", "");
                String number = rest.replaceFirst("(?s)[^0-9].*", "");
                at += Math.max(1, word.length() + number.length());
            }
            token = text.substring(start, at);
            return token;
        }

        ParseError error(int code) {
            return new ParseError(code, start);
        }

        int number(int low, int high) {
            if (!next().matches("[0-9]{1,3}")) {
                throw error(1);
            }
            int value = Integer.parseInt(token);
            if (value < low || value > high) {
                throw error(2);
            }
            return value;
        }

        String word(int longest) {
            if (!next().matches("[a-z]{1," + longest + "}")) {
                throw error(1);
            }
            return token;
        }

        void semicolon() {
            if (!next().equals(";")) {
                throw error(1);
            }
        }
    }

    private static final class Command {
        private String name;
        private int first;
        private int second;
        private String word;
    }

    private State state;
    private State saved;
    private final Deque<State> history = new ArrayDeque<>();
    private String input = "";
    private String output = "";
    private int code;
    private int position = -1;

    public NaiveHedge() {
        state = parseConfiguration("hedge 16 4 2 5 3 4;twig 2 q 0 3;twig 9 r 1 6;nest 10 5;message 0 hello;"
                + "message 1 yes;message 0 no;");
    }

    private static State parseConfiguration(String text) {
        Tokens tokens = new Tokens(text);
        if (!tokens.next().equals("hedge")) {
            throw tokens.error(1);
        }
        State made = new State(tokens.number(4, 40), tokens.number(1, 12), tokens.number(0, 9),
                tokens.number(1, 99), tokens.number(1, 30), tokens.number(1, 40));
        tokens.semicolon();
        while (!tokens.next().isEmpty()) {
            if (tokens.token.equals("twig")) {
                int slot = tokens.number(0, made.slots - 1);
                if (made.twigs[slot] != null) {
                    throw tokens.error(3);
                }
                String letter = tokens.word(1);
                made.plant(slot, letter.charAt(0), tokens.number(0, 1), tokens.number(1, 99), null);
            } else if (tokens.token.equals("nest")) {
                int slot = tokens.number(0, made.slots - 1);
                if (made.nests[slot] > 0) {
                    throw tokens.error(3);
                }
                if (made.nestCount() == 6) {
                    throw tokens.error(4);
                }
                made.nests[slot] = tokens.number(1, 30);
            } else if (tokens.token.equals("message")) {
                int sender = tokens.number(0, 1);
                String word = tokens.word(12);
                if (made.queues.get(sender).size() == 8) {
                    throw tokens.error(4);
                }
                made.add(sender, word);
            } else {
                throw tokens.error(1);
            }
            tokens.semicolon();
        }
        return made;
    }

    private static List<Command> parseCommands(String text) {
        Tokens tokens = new Tokens(text);
        List<Command> commands = new ArrayList<>();
        while (!tokens.next().isEmpty()) {
            Command command = new Command();
            command.name = tokens.token;
            if (!List.of("plant", "remove", "trim", "nest", "message", "cancel", "work", "end").contains(command.name)) {
                throw tokens.error(1);
            }
            if (commands.size() == 30) {
                throw tokens.error(4);
            }
            switch (command.name) {
                case "plant" -> {
                    command.first = tokens.number(0, 39);
                    command.second = tokens.word(1).charAt(0);
                }
                case "remove" -> command.first = tokens.number(0, 39);
                case "trim" -> {
                    command.first = tokens.number(0, 39);
                    command.second = tokens.number(1, 99);
                }
                case "nest" -> {
                    command.first = tokens.number(0, 39);
                    command.second = tokens.number(1, 30);
                }
                case "message" -> {
                    command.first = tokens.number(0, 1);
                    command.word = tokens.word(12);
                }
                case "cancel" -> {
                    command.first = tokens.number(0, 1);
                    command.second = tokens.number(0, 7);
                }
                case "work" -> command.first = tokens.number(1, 12);
                default -> command.first = tokens.number(1, 60);
            }
            tokens.semicolon();
            commands.add(command);
        }
        return commands;
    }

    public int append(int a, int b, int c, int d, int e) {
        if (input.length() + 20 > 800) {
            throw new IllegalStateException();
        }
        for (int value : new int[] {a, b, c, d, e}) {
            for (int shift = 24; shift >= 0; shift -= 8) {
                input += (char) (value >> shift & 255);
            }
        }
        return input.length();
    }

    public int truncate(int length) {
        argument(length >= 0 && length <= input.length());
        input = input.substring(0, length);
        return length;
    }

    public int load() {
        String text = input;
        input = "";
        code = 0;
        position = -1;
        try {
            state = parseConfiguration(text);
        } catch (ParseError error) {
            code = error.code;
            position = error.position;
            throw new IllegalArgumentException();
        }
        history.clear();
        return state.slots;
    }

    public int executeCommands() {
        String text = input;
        input = "";
        code = 0;
        position = -1;
        List<Command> commands;
        try {
            commands = parseCommands(text);
        } catch (ParseError error) {
            code = error.code;
            position = error.position;
            throw new IllegalArgumentException();
        }
        State before = state.copy();
        List<State> older = new ArrayList<>(history);
        int executed = 0;
        try {
            for (Command command : commands) {
                execute(command);
                executed++;
            }
        } catch (IllegalStateException | IllegalArgumentException | IndexOutOfBoundsException stop) {
            // The commands before this one keep their effect.
        }
        input = "";
        history.clear();
        history.addAll(older);
        history.addLast(before);
        forgetOldest();
        return executed;
    }

    private void execute(Command command) {
        switch (command.name) {
            case "plant" -> plant(command.first, command.second);
            case "remove" -> remove(command.first);
            case "trim" -> trim(command.first, command.second);
            case "nest" -> addNest(command.first, command.second);
            case "message" -> {
                input = command.word;
                queueMessage(command.first);
            }
            case "cancel" -> cancelMessage(command.first, command.second);
            case "work" -> setWorkLimit(command.first);
            default -> endDays(command.first);
        }
    }

    public int errorCode() {
        return code;
    }

    public int errorPosition() {
        return position;
    }

    public int slotCount() {
        return state.slots;
    }

    public int day() {
        return state.day;
    }

    public int activeGardener() {
        return state.day % 2;
    }

    public int workLimit() {
        return state.limit;
    }

    public int actionsLeft() {
        return state.actions;
    }

    public int twigCount() {
        return state.twigCount();
    }

    public int letterAt(int slot) {
        slot(slot);
        return state.twigs[slot] == null ? -1 : state.twigs[slot].letter;
    }

    public int ownerAt(int slot) {
        slot(slot);
        return state.twigs[slot] == null ? -1 : state.twigs[slot].owner;
    }

    public int lengthAt(int slot) {
        slot(slot);
        return state.twigs[slot] == null ? 0 : state.twigs[slot].length;
    }

    public boolean isReserved(int slot) {
        slot(slot);
        return state.reserved(slot);
    }

    public int nestDays(int slot) {
        slot(slot);
        return state.nests[slot];
    }

    public boolean isProtected(int slot) {
        slot(slot);
        return state.guarded(slot);
    }

    public int nestCount() {
        return state.nestCount();
    }

    public int pendingCount(int gardener) {
        gardener(gardener);
        return state.queues.get(gardener).size();
    }

    public int pendingLetter(int gardener, int message, int index) {
        gardener(gardener);
        List<Message> queue = state.queues.get(gardener);
        if (message < 0 || message >= queue.size() || index < 0 || index >= queue.get(message).word.length()) {
            return -1;
        }
        return queue.get(message).word.charAt(index);
    }

    public int lettersWritten(int gardener) {
        gardener(gardener);
        return state.current[gardener] == null ? 0 : state.current[gardener].written;
    }

    public int startSlot(int gardener) {
        gardener(gardener);
        return state.current[gardener] == null ? -1 : state.current[gardener].start;
    }

    public int postedCount(int gardener) {
        gardener(gardener);
        return (int) state.posted.stream().filter(message -> message.sender == gardener).count();
    }

    public int nextStartSlot(int gardener) {
        gardener(gardener);
        List<Message> queue = state.queues.get(gardener);
        return queue.isEmpty() ? -1 : state.startFor(queue.get(0).word);
    }

    public int longestFreeRun() {
        int longest = 0;
        for (int from = 0; from < state.slots; from++) {
            int to = from;
            while (to < state.slots && state.free(to)) {
                to++;
            }
            longest = Math.max(longest, to - from);
        }
        return longest;
    }

    public int yardLetterCount(int yard) {
        int count = 0;
        for (int slot = 0; slot < state.slots; slot++) {
            count += state.twigs[slot] != null && Math.floorDiv(slot, state.yard) == yard ? 1 : 0;
        }
        return count;
    }

    public int plantReason(int slot) {
        slot(slot);
        return state.actions == 0 ? 1 : state.twigs[slot] != null ? 2 : state.reserved(slot) ? 3
                : state.nests[slot] > 0 ? 4 : 0;
    }

    public int removeReason(int slot) {
        slot(slot);
        Twig twig = state.twigs[slot];
        return state.actions == 0 ? 1 : twig == null ? 5 : twig.owner != activeGardener() ? 6
                : twig.message != null ? 7 : state.guarded(slot) ? 8 : 0;
    }

    public int trimReason(int slot) {
        slot(slot);
        Twig twig = state.twigs[slot];
        return state.actions == 0 ? 1 : twig == null ? 5 : twig.owner != activeGardener() ? 6
                : state.guarded(slot) ? 8 : 0;
    }

    public int writeReason(int gardener) {
        gardener(gardener);
        if (gardener != activeGardener()) {
            return 13;
        }
        if (state.actions == 0) {
            return 1;
        }
        if (state.current[gardener] != null) {
            return 0;
        }
        return state.queues.get(gardener).isEmpty() ? 11 : nextStartSlot(gardener) < 0 ? 12 : 0;
    }

    public int keepReason(int slot) {
        slot(slot);
        Twig twig = state.twigs[slot];
        return twig == null ? 5 : twig.length <= state.legal ? 14 : state.guarded(slot) ? 8 : 0;
    }

    public int daysUntilInspection() {
        int days = 1;
        while ((state.day + days) % state.interval != 0) {
            days++;
        }
        return days;
    }

    public int daysUntilPruned(int slot) {
        slot(slot);
        State future = state.copy();
        for (int days = 0; days <= 60; days++) {
            if (future.twigs[slot] == null) {
                return days;
            }
            future.endDay();
        }
        return -1;
    }

    private State after(int days) {
        State future = state.copy();
        for (int day = 0; day < days; day++) {
            future.endDay();
        }
        return future;
    }

    public int deliveredAfter(int gardener, int days) {
        gardener(gardener);
        argument(days >= 0 && days <= 60);
        return after(days).delivered[gardener] - state.delivered[gardener];
    }

    public int pendingAfter(int gardener, int days) {
        gardener(gardener);
        argument(days >= 0 && days <= 60);
        return after(days).queues.get(gardener).size();
    }

    public int bestNestSlot() {
        int best = -1;
        int most = -1;
        for (int slot = 0; slot < state.slots && state.nestCount() < 6; slot++) {
            if (state.nests[slot] == 0) {
                State with = state.copy();
                with.nests[slot] = 1;
                int saved = 0;
                for (int other = 0; other < state.slots; other++) {
                    saved += state.wouldPrune(other) && !with.wouldPrune(other) ? 1 : 0;
                }
                if (saved > most) {
                    most = saved;
                    best = slot;
                }
            }
        }
        return best;
    }

    public int leastWorkLimit(int gardener, int days) {
        gardener(gardener);
        argument(days >= 1 && days <= 60);
        int before = state.limit;
        int least = -1;
        for (int limit = 12; limit >= 1; limit--) {
            state.limit = limit;
            State future = after(days);
            if (future.queues.get(gardener).isEmpty() && future.current[gardener] == null
                    && future.posted.stream().noneMatch(message -> message.sender == gardener)) {
                least = limit;
            }
        }
        state.limit = before;
        return least;
    }

    public int messagesQueued(int gardener) {
        gardener(gardener);
        return state.queued[gardener];
    }

    public int messagesDelivered(int gardener) {
        gardener(gardener);
        return state.delivered[gardener];
    }

    public int messagesFailed(int gardener) {
        gardener(gardener);
        return state.failed[gardener];
    }

    public int messagesDropped(int gardener) {
        gardener(gardener);
        return state.dropped[gardener];
    }

    public int twigsPlanted() {
        return state.planted;
    }

    public int twigsPruned() {
        return state.pruned;
    }

    public int twigsRemoved() {
        return state.removed;
    }

    public int twigImbalance() {
        return 0;
    }

    public int messageImbalance() {
        return 0;
    }

    public int wrongLetters() {
        return 0;
    }

    public float meanLength() {
        int sum = 0;
        for (Twig twig : state.twigs) {
            sum += twig == null ? 0 : twig.length;
        }
        return twigCount() == 0 ? 0.0f : (float) sum / (float) twigCount();
    }

    public double occupancy() {
        return (double) twigCount() / (double) state.slots;
    }

    public int plant(int slot, int letter) {
        slot(slot);
        argument(letter >= 97 && letter <= 122);
        allowed(plantReason(slot) == 0);
        remember();
        state.plant(slot, letter, activeGardener(), 1, null);
        state.actions--;
        return twigCount();
    }

    public int remove(int slot) {
        slot(slot);
        allowed(removeReason(slot) == 0);
        remember();
        int letter = state.twigs[slot].letter;
        state.twigs[slot] = null;
        state.removed++;
        state.actions--;
        return letter;
    }

    public int trim(int slot, int cm) {
        slot(slot);
        argument(cm >= 1 && cm <= 99);
        allowed(trimReason(slot) == 0);
        remember();
        state.twigs[slot].length = Math.max(1, state.twigs[slot].length - cm);
        state.actions--;
        return state.twigs[slot].length;
    }

    public int addNest(int slot, int days) {
        slot(slot);
        argument(days >= 1 && days <= 30);
        allowed(state.nestCount() < 6 && state.nests[slot] == 0);
        remember();
        state.nests[slot] = days;
        return state.nestCount();
    }

    public int queueMessage(int gardener) {
        gardener(gardener);
        argument(input.matches("[a-z]{1,12}"));
        allowed(state.queues.get(gardener).size() < 8);
        remember();
        state.add(gardener, input);
        input = "";
        return state.queues.get(gardener).size();
    }

    public int cancelMessage(int gardener, int message) {
        gardener(gardener);
        if (message < 0 || message >= state.queues.get(gardener).size()) {
            throw new IndexOutOfBoundsException();
        }
        remember();
        state.dropped[gardener]++;
        return state.queues.get(gardener).remove(message).word.length();
    }

    public int setWorkLimit(int limit) {
        argument(limit >= 1 && limit <= 12);
        remember();
        int before = state.limit;
        state.limit = limit;
        return before;
    }

    public int endDays(int days) {
        argument(days >= 1 && days <= 60);
        remember();
        int before = state.delivered[0] + state.delivered[1];
        for (int day = 0; day < days; day++) {
            state.endDay();
        }
        return state.delivered[0] + state.delivered[1] - before;
    }

    public int undo() {
        allowed(!history.isEmpty());
        state = history.removeLast();
        return history.size();
    }

    public int save() {
        saved = state.copy();
        return state.day;
    }

    public int restore() {
        allowed(saved != null);
        state = saved.copy();
        history.clear();
        return state.day;
    }

    public int formatHedge() {
        StringBuilder signs = new StringBuilder();
        for (int slot = 0; slot < state.slots; slot++) {
            Twig twig = state.twigs[slot];
            if (twig != null) {
                String letter = String.valueOf((char) twig.letter);
                signs.append(twig.owner == 1 ? letter.toUpperCase(java.util.Locale.ROOT) : letter);
            } else {
                signs.append(state.reserved(slot) ? '=' : state.nests[slot] > 0 ? '*' : '.');
            }
        }
        output = signs.toString();
        return output.length();
    }

    public int outputByte(int index) {
        return index >= 0 && index < output.length() ? output.charAt(index) : -1;
    }

    private void remember() {
        history.addLast(state.copy());
        forgetOldest();
    }

    private void forgetOldest() {
        if (history.size() > 8) {
            history.removeFirst();
        }
    }

    private void slot(int slot) {
        if (slot < 0 || slot >= state.slots) {
            throw new IndexOutOfBoundsException();
        }
    }

    private static void gardener(int gardener) {
        argument(gardener == 0 || gardener == 1);
    }

    private static void argument(boolean good) {
        if (!good) {
            throw new IllegalArgumentException();
        }
    }

    private static void allowed(boolean good) {
        if (!good) {
            throw new IllegalStateException();
        }
    }
}
