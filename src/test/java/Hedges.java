import java.nio.charset.StandardCharsets;

/** What the tests do again and again with a hedge. */
final class Hedges {
    private Hedges() {
    }

    static HedgeMessages of(String configuration) {
        HedgeMessages hedge = new HedgeMessages();
        put(hedge, configuration);
        hedge.load();
        return hedge;
    }

    static HedgeMessages put(HedgeMessages hedge, String text) {
        byte[] bytes = text.getBytes(StandardCharsets.ISO_8859_1);
        int length = 0;
        for (int at = 0; at < bytes.length; at += 20) {
            length = hedge.append(four(bytes, at), four(bytes, at + 4), four(bytes, at + 8),
                    four(bytes, at + 12), four(bytes, at + 16));
        }
        if (bytes.length > 0) {
            hedge.truncate(length - (20 - bytes.length % 20) % 20);
        }
        return hedge;
    }

    static int run(HedgeMessages hedge, String commands) {
        put(hedge, commands);
        return hedge.executeCommands();
    }

    static int queue(HedgeMessages hedge, int gardener, String word) {
        put(hedge, word);
        return hedge.queueMessage(gardener);
    }

    /** No method tells the length, but truncate refuses all that is longer. */
    static int bufferLength(HedgeMessages hedge) {
        for (int length = 800; length > 0; length--) {
            try {
                return hedge.truncate(length);
            } catch (IllegalArgumentException longer) {
                continue;
            }
        }
        return 0;
    }

    /** The length of the input buffer, which stays as it is, if it is the one that is due; another one if not. */
    static int truncated(HedgeMessages hedge, int due) {
        try {
            return hedge.truncate(due + 1);
        } catch (IllegalArgumentException notLonger) {
            try {
                return hedge.truncate(due);
            } catch (IllegalArgumentException shorter) {
                return due - 1;
            }
        }
    }

    static String picture(HedgeMessages hedge) {
        return lastOutput(hedge, hedge.formatHedge());
    }

    static String lastOutput(HedgeMessages hedge, int length) {
        StringBuilder signs = new StringBuilder();
        for (int index = 0; index < length; index++) {
            signs.append((char) hedge.outputByte(index));
        }
        return signs.toString();
    }

    static String pending(HedgeMessages hedge, int gardener) {
        StringBuilder words = new StringBuilder();
        for (int message = 0; message < hedge.pendingCount(gardener); message++) {
            words.append(message > 0 ? " " : "");
            // A word has at most 12 letters; the bound only keeps a broken class from going on for ever.
            for (int index = 0; index < 20 && hedge.pendingLetter(gardener, message, index) != HedgeMessages.NONE; index++) {
                words.append((char) hedge.pendingLetter(gardener, message, index));
            }
        }
        return words.toString();
    }

    /** All that can be asked of the hedge, but for the input buffer, the output and the error. */
    static String state(HedgeMessages hedge) {
        StringBuilder all = new StringBuilder();
        all.append(hedge.slotCount()).append('/').append(hedge.day()).append('/').append(hedge.workLimit());
        all.append('/').append(hedge.actionsLeft()).append('/').append(hedge.daysUntilInspection());
        for (int slot = 0; slot < hedge.slotCount(); slot++) {
            all.append(' ').append(hedge.letterAt(slot)).append(',').append(hedge.ownerAt(slot));
            all.append(',').append(hedge.lengthAt(slot)).append(',').append(hedge.nestDays(slot));
            all.append(',').append(hedge.isReserved(slot)).append(',').append(hedge.keepReason(slot));
            all.append(',').append(hedge.yardLetterCount(slot));
        }
        for (int gardener = 0; gardener < 2; gardener++) {
            all.append(" | ").append(pending(hedge, gardener)).append(' ').append(hedge.startSlot(gardener));
            all.append(',').append(hedge.lettersWritten(gardener)).append(',').append(hedge.postedCount(gardener));
            all.append(',').append(hedge.messagesQueued(gardener)).append(',');
            all.append(hedge.messagesDelivered(gardener)).append(',').append(hedge.messagesFailed(gardener));
            all.append(',').append(hedge.messagesDropped(gardener));
        }
        all.append(" | ").append(hedge.twigsPlanted()).append(',').append(hedge.twigsPruned());
        all.append(',').append(hedge.twigsRemoved());
        return all.toString();
    }

    private static int four(byte[] bytes, int at) {
        int value = 0;
        for (int index = at; index < at + 4; index++) {
            value = value << 8 | (index < bytes.length ? bytes[index] & 255 : ' ');
        }
        return value;
    }
}
