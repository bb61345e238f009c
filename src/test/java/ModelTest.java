import java.lang.reflect.InvocationTargetException;
import java.lang.reflect.Method;
import java.lang.reflect.Modifier;
import java.util.ArrayList;
import java.util.Arrays;
import java.util.Comparator;
import java.util.HashMap;
import java.util.List;
import java.util.Map;
import java.util.Random;

/** Compares long runs of calls, the same in every run of this test, with those of NaiveHedge. */
public final class ModelTest {
    private static final int RUNS = 600;
    private static final int STEPS = 300;
    private static final String[] WORDS = {"a", "b", "yes", "no", "hello", "hedge", "twig", "abcdefghijkl", "xy", "end"};

    private final Random random;
    private final HedgeMessages hedge = new HedgeMessages();
    private final NaiveHedge model = new NaiveHedge();
    private final Map<String, Method> ofHedge = methods(HedgeMessages.class);
    private final Map<String, Method> ofModel = methods(NaiveHedge.class);
    private final List<String> names = new ArrayList<>(ofHedge.keySet());
    private final StringBuilder told = new StringBuilder();
    private boolean good = true;

    private ModelTest(int seed) {
        random = new Random(seed);
        names.sort(Comparator.naturalOrder());
    }

    public static void main(String[] args) {
        int failed = 0;
        for (int seed = 1; seed <= RUNS && failed < 3; seed++) {
            ModelTest run = new ModelTest(seed);
            run.play();
            if (!run.good) {
                failed++;
                System.out.println("run " + seed + ":" + run.told);
            }
        }
        System.out.println((RUNS - failed) + " passed, " + failed + " failed");
        if (failed > 0) {
            System.exit(1);
        }
    }

    private static Map<String, Method> methods(Class<?> type) {
        Map<String, Method> found = new HashMap<>();
        for (Method method : type.getDeclaredMethods()) {
            if (Modifier.isPublic(method.getModifiers())) {
                found.put(method.getName(), method);
            }
        }
        return found;
    }

    private void play() {
        if (random.nextInt(4) > 0) {
            put(configuration());
            call("load");
        }
        for (int step = 0; step < STEPS && good; step++) {
            act();
            if (step % 5 == 0) {
                lookAtAll();
            }
        }
    }

    private void act() {
        switch (random.nextInt(16)) {
            case 0, 1, 2 -> call("plant", slot(), random.nextInt(20) == 0 ? any() : 97 + random.nextInt(26));
            case 3 -> call("remove", slot());
            case 4 -> call("trim", slot(), random.nextInt(20) == 0 ? any() : 1 + random.nextInt(9));
            case 5 -> call("addNest", slot(), random.nextInt(20) == 0 ? any() : 1 + random.nextInt(9));
            case 6, 7 -> {
                put(random.nextInt(12) == 0 ? "No word" : WORDS[random.nextInt(WORDS.length)]);
                call("queueMessage", gardener());
            }
            case 8 -> call("cancelMessage", gardener(), random.nextInt(20) == 0 ? any() : random.nextInt(4));
            case 9 -> call("setWorkLimit", random.nextInt(14));
            case 10, 11 -> call("endDays", random.nextInt(12) == 0 ? random.nextInt(63) : 1 + random.nextInt(2));
            case 12 -> {
                put(commands());
                call("executeCommands");
            }
            case 13 -> call("undo");
            case 14 -> storage();
            default -> forecast();
        }
    }

    private void storage() {
        switch (random.nextInt(6)) {
            case 0 -> call("restore");
            case 1, 2 -> call("save");
            case 3 -> call("formatHedge");
            case 4 -> call("append", any(), any(), any(), any(), any());
            default -> {
                if (random.nextInt(4) == 0) {
                    put(configuration());
                    call("load");
                }
            }
        }
    }

    private void forecast() {
        int days = random.nextInt(10) == 0 ? any() : random.nextInt(62);
        switch (random.nextInt(5)) {
            case 0 -> call("daysUntilPruned", slot());
            case 1 -> call("deliveredAfter", gardener(), days);
            case 2 -> call("pendingAfter", gardener(), days);
            case 3 -> call("leastWorkLimit", gardener(), random.nextInt(3) == 0 ? days : random.nextInt(12));
            default -> call("bestNestSlot");
        }
    }

    /** Asks every method that changes nothing, with every argument that can matter. */
    private void lookAtAll() {
        for (String name : names) {
            int parameters = ofHedge.get(name).getParameterCount();
            boolean ofSlot = name.endsWith("At") || name.startsWith("is") || name.equals("nestDays")
                    || name.equals("yardLetterCount") || name.equals("outputByte")
                    || name.endsWith("Reason") && !name.equals("writeReason");
            boolean ofGardener = name.startsWith("messages") || name.equals("pendingCount") || name.endsWith("StartSlot")
                    || name.equals("lettersWritten") || name.equals("startSlot") || name.equals("postedCount")
                    || name.equals("writeReason");
            boolean changes = List.of("load", "executeCommands", "undo", "save", "restore", "formatHedge").contains(name);
            if (parameters == 0 && !changes) {
                call(name);
            }
            for (int slot = -1; ofSlot && slot <= 41; slot++) {
                call(name, slot);
            }
            for (int gardener = -1; ofGardener && gardener <= 2; gardener++) {
                call(name, gardener);
            }
        }
        for (int message = 0; message < 9; message++) {
            call("pendingLetter", random.nextInt(2), message, random.nextInt(13));
        }
    }

    private int slot() {
        return random.nextInt(20) == 0 ? any() : random.nextInt(16);
    }

    private int gardener() {
        return random.nextInt(30) == 0 ? any() : random.nextInt(2);
    }

    private int any() {
        int[] edges = {-1, 0, 1, 2, 12, 13, 40, 60, 61, 100, 123, Integer.MIN_VALUE, Integer.MAX_VALUE};
        return random.nextInt(3) == 0 ? random.nextInt() : edges[random.nextInt(edges.length)];
    }

    private String configuration() {
        StringBuilder text = new StringBuilder();
        text.append("hedge ").append(random.nextInt(4) == 0 ? 4 + random.nextInt(37) : 8 + random.nextInt(10));
        text.append(' ').append(1 + random.nextInt(random.nextBoolean() ? 4 : 12)).append(' ');
        text.append(random.nextInt(4)).append(' ').append(1 + random.nextInt(12)).append(' ');
        text.append(1 + random.nextInt(7)).append(' ').append(1 + random.nextInt(8)).append(';');
        for (int statement = random.nextInt(14); statement > 0; statement--) {
            switch (random.nextInt(4)) {
                case 0 -> text.append("twig ").append(random.nextInt(17)).append(' ').append(letter()).append(' ')
                        .append(random.nextInt(2)).append(' ').append(1 + random.nextInt(12)).append(';');
                case 1 -> text.append("nest ").append(random.nextInt(17)).append(' ')
                        .append(1 + random.nextInt(9)).append("; ");
                default -> text.append("message ").append(random.nextInt(2)).append(' ').append(word()).append(';');
            }
        }
        return spoil(text);
    }

    private String commands() {
        StringBuilder text = new StringBuilder();
        int many = random.nextInt(15) == 0 ? 28 + random.nextInt(5) : random.nextInt(6);
        for (int command = 0; command < many; command++) {
            switch (random.nextInt(9)) {
                case 0, 1 -> text.append("plant ").append(random.nextInt(18)).append(' ').append(letter());
                case 2 -> text.append("remove ").append(random.nextInt(18));
                case 3 -> text.append("trim ").append(random.nextInt(18)).append(' ').append(1 + random.nextInt(9));
                case 4 -> text.append("nest ").append(random.nextInt(18)).append(' ').append(1 + random.nextInt(9));
                case 5 -> text.append("message ").append(random.nextInt(2)).append(' ').append(word());
                case 6 -> text.append("cancel ").append(random.nextInt(2)).append(' ').append(random.nextInt(3));
                case 7 -> text.append("work ").append(1 + random.nextInt(12));
                default -> text.append("end ").append(1 + random.nextInt(3));
            }
            text.append(';');
        }
        return spoil(text);
    }

    private char letter() {
        return (char) ('a' + random.nextInt(26));
    }

    private String word() {
        StringBuilder word = new StringBuilder();
        for (int letters = 1 + random.nextInt(random.nextInt(5) == 0 ? 12 : 4); letters > 0; letters--) {
            word.append(letter());
        }
        return word.toString();
    }

    private String spoil(StringBuilder text) {
        String signs = " ;az09 {}A\u0000\u00ff/:`";
        while (text.length() > 0 && random.nextInt(5) == 0) {
            int at = random.nextInt(text.length());
            switch (random.nextInt(4)) {
                case 0 -> text.deleteCharAt(at);
                case 1 -> text.setCharAt(at, signs.charAt(random.nextInt(signs.length())));
                case 2 -> text.insert(at, signs.charAt(random.nextInt(signs.length())));
                default -> text.setLength(at);
            }
        }
        return text.toString();
    }

    private void put(String text) {
        call("truncate", 0);
        // What is cut off may look like the rest of the text.
        char cut = " a0;".charAt(random.nextInt(4));
        for (int at = 0; at < text.length(); at += 20) {
            Object[] parts = new Object[5];
            for (int part = 0; part < 5; part++) {
                int value = 0;
                for (int index = at + part * 4; index < at + part * 4 + 4; index++) {
                    value = value << 8 | (index < text.length() ? text.charAt(index) : cut);
                }
                parts[part] = value;
            }
            call("append", parts);
        }
        call("truncate", text.length());
    }

    private void call(String name, Object... values) {
        Object due = answer(ofModel.get(name), model, values);
        Object given = answer(ofHedge.get(name), hedge, values);
        if (due.equals(given)) {
            if (!name.endsWith("At") && !name.endsWith("Reason")) {
                told.append(' ').append(name).append(Arrays.toString(values)).append('=').append(given);
            }
            return;
        }
        if (good) {
            told.append("\n  ").append(name).append(Arrays.toString(values)).append(" answered ").append(given);
            told.append(", due is ").append(due);
        }
        good = false;
    }

    private static Object answer(Method method, Object target, Object[] values) {
        try {
            return method.invoke(target, values);
        } catch (InvocationTargetException thrown) {
            return thrown.getCause().getClass().getName();
        } catch (IllegalAccessException hidden) {
            throw new IllegalStateException(hidden);
        }
    }
}
