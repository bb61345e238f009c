import java.lang.reflect.Constructor;
import java.lang.reflect.Field;
import java.lang.reflect.Member;
import java.lang.reflect.Method;
import java.lang.reflect.Modifier;
import java.util.ArrayList;
import java.util.Arrays;
import java.util.List;
import java.util.TreeSet;

/** The public face of the document, and the rules of LANGUAGE.md that reflection can see. */
public final class FaceTest {
    private static final String[] CONSTANTS = {
        "NONE = -1",
        "SYNTAX_ERROR = 1",
        "RANGE_ERROR = 2",
        "CONFLICT_ERROR = 3",
        "LIMIT_ERROR = 4",
        "ALLOWED = 0",
        "NO_ACTIONS_LEFT = 1",
        "SLOT_TAKEN = 2",
        "SLOT_RESERVED = 3",
        "NEST_IN_SLOT = 4",
        "SLOT_EMPTY = 5",
        "NOT_OWNER = 6",
        "PART_OF_MESSAGE = 7",
        "PROTECTED = 8",
        "TOO_MANY_NESTS = 9",
        "QUEUE_FULL = 10",
        "NOTHING_TO_WRITE = 11",
        "NO_START_SLOT = 12",
        "NOT_ACTIVE = 13",
        "SHORT_ENOUGH = 14"
    };
    private static final String[] METHODS = {
        "int append(int, int, int, int, int) throws IllegalStateException",
        "int truncate(int) throws IllegalArgumentException",
        "int load() throws IllegalArgumentException",
        "int executeCommands() throws IllegalArgumentException",
        "int errorCode()",
        "int errorPosition()",
        "int slotCount()",
        "int day()",
        "int activeGardener()",
        "int workLimit()",
        "int actionsLeft()",
        "int twigCount()",
        "int letterAt(int) throws IndexOutOfBoundsException",
        "int ownerAt(int) throws IndexOutOfBoundsException",
        "int lengthAt(int) throws IndexOutOfBoundsException",
        "boolean isReserved(int) throws IndexOutOfBoundsException",
        "int nestDays(int) throws IndexOutOfBoundsException",
        "boolean isProtected(int) throws IndexOutOfBoundsException",
        "int nestCount()",
        "int pendingCount(int) throws IllegalArgumentException",
        "int pendingLetter(int, int, int) throws IllegalArgumentException",
        "int lettersWritten(int) throws IllegalArgumentException",
        "int startSlot(int) throws IllegalArgumentException",
        "int postedCount(int) throws IllegalArgumentException",
        "int nextStartSlot(int) throws IllegalArgumentException",
        "int longestFreeRun()",
        "int yardLetterCount(int)",
        "int plantReason(int) throws IndexOutOfBoundsException",
        "int removeReason(int) throws IndexOutOfBoundsException",
        "int trimReason(int) throws IndexOutOfBoundsException",
        "int writeReason(int) throws IllegalArgumentException",
        "int keepReason(int) throws IndexOutOfBoundsException",
        "int daysUntilInspection()",
        "int daysUntilPruned(int) throws IndexOutOfBoundsException",
        "int deliveredAfter(int, int) throws IllegalArgumentException",
        "int pendingAfter(int, int) throws IllegalArgumentException",
        "int bestNestSlot()",
        "int leastWorkLimit(int, int) throws IllegalArgumentException",
        "int messagesQueued(int) throws IllegalArgumentException",
        "int messagesDelivered(int) throws IllegalArgumentException",
        "int messagesFailed(int) throws IllegalArgumentException",
        "int messagesDropped(int) throws IllegalArgumentException",
        "int twigsPlanted()",
        "int twigsPruned()",
        "int twigsRemoved()",
        "int twigImbalance()",
        "int messageImbalance()",
        "int wrongLetters()",
        "float meanLength()",
        "double occupancy()",
        "int plant(int, int) throws IndexOutOfBoundsException, IllegalArgumentException, IllegalStateException",
        "int remove(int) throws IndexOutOfBoundsException, IllegalStateException",
        "int trim(int, int) throws IndexOutOfBoundsException, IllegalArgumentException, IllegalStateException",
        "int addNest(int, int) throws IndexOutOfBoundsException, IllegalArgumentException, IllegalStateException",
        "int queueMessage(int) throws IllegalArgumentException, IllegalStateException",
        "int cancelMessage(int, int) throws IllegalArgumentException, IndexOutOfBoundsException",
        "int setWorkLimit(int) throws IllegalArgumentException",
        "int endDays(int) throws IllegalArgumentException",
        "int undo() throws IllegalStateException",
        "int save()",
        "int restore() throws IllegalStateException",
        "int formatHedge()",
        "int outputByte(int)"
    };
    private static final Checks CHECKS = new Checks();

    private FaceTest() {
    }

    public static void main(String[] args) {
        CHECKS.test("the constants", FaceTest::constants);
        CHECKS.test("the constructor and the methods", FaceTest::methods);
        CHECKS.test("rule 1: nothing else can be seen", FaceTest::nothingElse);
        CHECKS.test("rules 1, 2 and 11: the classes inside", FaceTest::classesInside);
        CHECKS.close();
    }

    private static void constants() {
        TreeSet<String> found = new TreeSet<>();
        for (Field field : HedgeMessages.class.getFields()) {
            try {
                found.add(Modifier.toString(field.getModifiers()) + " " + field.getType() + " " + field.getName()
                        + " = " + field.get(null));
            } catch (IllegalAccessException hidden) {
                found.add(field.getName() + " cannot be read");
            }
        }
        TreeSet<String> due = new TreeSet<>();
        for (String constant : CONSTANTS) {
            due.add("public static final int " + constant);
        }
        CHECKS.same(due, found, "the constants");
    }

    private static void methods() {
        CHECKS.same(true, Modifier.isFinal(HedgeMessages.class.getModifiers()), "the class is final");
        CHECKS.same(true, Modifier.isPublic(HedgeMessages.class.getModifiers()), "the class is public");
        TreeSet<String> found = new TreeSet<>();
        for (Method method : HedgeMessages.class.getDeclaredMethods()) {
            if (Modifier.isPublic(method.getModifiers())) {
                found.add(method.getReturnType() + " " + method.getName() + types(method.getParameterTypes(), "(", ")")
                        + thrown(method.getExceptionTypes()) + (Modifier.isStatic(method.getModifiers()) ? " static" : ""));
            }
        }
        CHECKS.same(new TreeSet<>(Arrays.asList(METHODS)), found, "the methods");
        Constructor<?>[] constructors = HedgeMessages.class.getDeclaredConstructors();
        CHECKS.same(1, constructors.length, "the number of constructors");
        CHECKS.same(0, constructors[0].getParameterCount(), "the parameters of the constructor");
        CHECKS.same(true, Modifier.isPublic(constructors[0].getModifiers()), "the constructor is public");
    }

    private static String thrown(Class<?>[] types) {
        return types.length == 0 ? "" : types(types, " throws ", "");
    }

    private static String types(Class<?>[] types, String before, String behind) {
        List<String> names = new ArrayList<>();
        for (Class<?> type : types) {
            names.add(type.getSimpleName());
        }
        return before + String.join(", ", names) + behind;
    }

    private static void nothingElse() {
        List<Member> members = new ArrayList<>(Arrays.asList(HedgeMessages.class.getDeclaredMethods()));
        members.addAll(Arrays.asList(HedgeMessages.class.getDeclaredFields()));
        TreeSet<String> publicNames = publicNames();
        for (Member member : members) {
            boolean seen = Modifier.isPublic(member.getModifiers());
            CHECKS.same(true, seen || Modifier.isPrivate(member.getModifiers()) || member.isSynthetic(),
                    member + " is public or private");
            if (member instanceof Method && !seen) {
                CHECKS.same(false, publicNames.contains(member.getName()), member + " bears the name of a public one");
            }
        }
        for (Field field : HedgeMessages.class.getDeclaredFields()) {
            if (Modifier.isStatic(field.getModifiers())) {
                CHECKS.same(true, Modifier.isFinal(field.getModifiers()), field + " is final");
            }
        }
    }

    private static TreeSet<String> publicNames() {
        TreeSet<String> names = new TreeSet<>();
        for (Method method : HedgeMessages.class.getMethods()) {
            names.add(method.getName());
        }
        return names;
    }

    private static void classesInside() {
        Class<?>[] inside = HedgeMessages.class.getDeclaredClasses();
        TreeSet<String> names = publicNames();
        CHECKS.same(true, inside.length <= 12, "the number of classes inside");
        for (Class<?> type : inside) {
            CHECKS.same(true, Modifier.isStatic(type.getModifiers()) && Modifier.isPrivate(type.getModifiers()),
                    type + " is private and static");
            int fields = 0;
            for (Field field : type.getDeclaredFields()) {
                fields += Modifier.isStatic(field.getModifiers()) ? 0 : 1;
            }
            CHECKS.same(true, fields <= 20, type + " has at most 20 fields");
            for (Method method : type.getDeclaredMethods()) {
                CHECKS.same(true, method.getParameterCount() <= 7, method + " has at most 7 parameters");
                // Those of every enum cannot be named otherwise.
                boolean ofEnum = type.isEnum() && List.of("values", "valueOf").contains(method.getName());
                CHECKS.same(false, !ofEnum && names.contains(method.getName()), method + " bears the name of a public one");
            }
        }
    }
}
