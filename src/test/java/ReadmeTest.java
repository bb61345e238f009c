import java.io.IOException;
import java.nio.file.Files;
import java.nio.file.Path;
import java.util.ArrayList;
import java.util.List;

/** The Java of README.md, word for word, and what it says of it. */
public final class ReadmeTest {
    private static final Checks CHECKS = new Checks();

    private ReadmeTest() {
    }

    public static void main(String[] args) throws IOException {
        Path root = Path.of(System.getenv().getOrDefault("HEDGE_ROOT", "."));
        List<String> readme = Files.readAllLines(root.resolve("README.md"));
        List<String> program = Files.readAllLines(root.resolve("src/test/java/ReadmeTest.java"));
        CHECKS.test("README.md: its Java stands in this test", () -> sameJava(readme, program));
        CHECKS.test("README.md: texts, answers, errors and output", ReadmeTest::use);
        CHECKS.test("README.md: a text behind another one", ReadmeTest::textBehindText);
        CHECKS.close();
    }

    private static void use() {
        HedgeMessages hedge = new HedgeMessages();

        put(hedge, "hedge 16 4 2 5 3 4; twig 2 q 0 3; nest 10 5; message 0 hello;");
        int slots = hedge.load();                 // 16
        put(hedge, "plant 0 a; trim 2 1; message 1 yes; end 1;");
        int executed = hedge.executeCommands();   // 4
        put(hedge, "no");
        int pending = hedge.queueMessage(0);      // 1

        CHECKS.same(16, slots, "load()");
        CHECKS.same(4, executed, "executeCommands()");
        CHECKS.same(1, pending, "queueMessage(0)");

        int reason = hedge.plantReason(4);        // SLOT_TAKEN: the h of hello
        if (hedge.plantReason(12) == HedgeMessages.ALLOWED) {
            hedge.plant(12, 'z');                 // answers 5, the number of twigs now
        }

        CHECKS.same(HedgeMessages.SLOT_TAKEN, reason, "plantReason(4)");
        CHECKS.same((int) 'h', hedge.letterAt(4), "letterAt(4)");
        CHECKS.same(5, hedge.twigCount(), "twigCount()");

        put(hedge, "plant 3 b; work 13;");
        try {
            hedge.executeCommands();
        } catch (IllegalArgumentException wrongText) {
            int code = hedge.errorCode();         // RANGE_ERROR
            int position = hedge.errorPosition(); // 16, where the 13 begins
        }

        CHECKS.same(HedgeMessages.RANGE_ERROR, hedge.errorCode(), "errorCode()");
        CHECKS.same(16, hedge.errorPosition(), "errorPosition()");

        StringBuilder picture = new StringBuilder();
        int length = hedge.formatHedge();
        for (int index = 0; index < length; index++) {
            picture.append((char) hedge.outputByte(index));
        }
        System.out.println(picture);              // a.q.he===.*.Z...

        CHECKS.same("a.q.he===.*.Z...", picture.toString(), "the picture");
    }

    private static void textBehindText() {
        HedgeMessages hedge = new HedgeMessages();
        put(hedge, "work 3;");
        put(hedge, "");
        put(hedge, "work 5; end 1; end 1");
        put(hedge, ";");
        CHECKS.same(4, hedge.executeCommands(), "executeCommands()");
    }

    static void put(HedgeMessages hedge, String text) {
        int length = 0;
        for (int at = 0; at < text.length(); at += 20) {
            int[] four = new int[5];
            for (int index = 0; index < 20; index++) {
                char sign = at + index < text.length() ? text.charAt(at + index) : ' ';
                four[index / 4] = four[index / 4] << 8 | sign;
            }
            length = hedge.append(four[0], four[1], four[2], four[3], four[4]);
        }
        if (!text.isEmpty()) {
            hedge.truncate(length - (20 - text.length() % 20) % 20);
        }
    }

    private static void sameJava(List<String> readme, List<String> program) {
        String own = stripped(program);
        List<String> block = null;
        int blocks = 0;
        for (String line : readme) {
            if (line.equals("```java")) {
                block = new ArrayList<>();
            } else if (line.equals("```") && block != null) {
                blocks++;
                CHECKS.same(true, own.contains(stripped(block)), "a look in this test for " + block);
                block = null;
            } else if (block != null) {
                block.add(line);
            }
        }
        CHECKS.same(true, blocks > 0, "there is Java in README.md");
    }

    /** As one text, each line without the spaces before it. */
    private static String stripped(List<String> lines) {
        StringBuilder text = new StringBuilder("\n");
        for (String line : lines) {
            text.append(line.strip()).append('\n');
        }
        return text.toString();
    }
}
