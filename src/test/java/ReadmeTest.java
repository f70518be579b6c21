import java.io.ByteArrayOutputStream;
import java.io.IOException;
import java.io.PrintStream;
import java.nio.file.Files;
import java.nio.file.Path;

/** The example of README.md: its code is the code below, and the numbers behind its lines are what it prints. */
public final class ReadmeTest {
    private static final Path README = Path.of("README.md");
    private static final Path HERE = Path.of("src/test/java/ReadmeTest.java");

    public static void main(String[] args) throws IOException {
        String told = between(Files.readString(README), "```java\n", "```");
        String run = between(Files.readString(HERE), "// example\n", "// end of the example").replace("\n    ", "\n");
        Check.due("README's code", told.strip(), run.strip());

        StringBuilder due = new StringBuilder();
        for (String line : told.split("\n")) {
            if (line.contains("println(")) {
                due.append(line.substring(line.indexOf("// ") + 3).split(":")[0]).append('\n');
            }
        }
        Check.due("what the example prints", printed(), due.toString());
        Check.end();
    }

    private static String between(String all, String from, String to) {
        int start = all.indexOf(from) + from.length();
        return all.substring(start, all.indexOf(to, start));
    }

    private static String printed() {
        PrintStream before = System.out;
        ByteArrayOutputStream bytes = new ByteArrayOutputStream();
        System.setOut(new PrintStream(bytes, true));
        example();
        System.setOut(before);
        return bytes.toString().replace("\r", "");
    }

    // example
    static void put(VacuumSequencer x, String text) {
        int[] words = new int[(text.length() + 19) / 20 * 5];
        for (int i = 0; i < text.length(); i++) {
            words[i / 4] |= text.charAt(i) << (24 - i % 4 * 8);
        }
        for (int w = 0; w < words.length; w += 5) {
            x.appendText(words[w], words[w + 1], words[w + 2], words[w + 3], words[w + 4]);
        }
        x.truncateText(text.length());
    }

    static void example() {
        VacuumSequencer x = new VacuumSequencer();
        put(x, "chamber ten 0 0;");
        System.out.println(x.parseSystem()); // -1: VacuumSequencer.NONE, the text is wrong
        System.out.println(x.errorCode()); // 1: a token that cannot stand here
        System.out.println(x.errorPosition()); // 8: the token "ten"

        put(x, "chamber 100 25 0; pump 0 out 50 0 1000000; valve 0 out 3 2000; flange 0 7; flange 0 40;");
        System.out.println(x.parseSystem()); // 1: one chamber
        System.out.println(x.start(0)); // 1000000: the pressure of the pump's chamber
        System.out.println(x.pass(2)); // 0: no trips
        System.out.println(x.chamber(0, 3)); // 250000: the pressure
        System.out.println(x.mayOpen(0)); // 2: the sides of the valve differ too much
        System.out.println(x.ticksTo(0, 1000)); // 8: ticks, if nothing else is done

        put(x, "until 0 1000; stop 0; test 0 10;");
        System.out.println(x.runRecipe()); // 3: steps, executed as one change
        System.out.println(x.rise(0, 1)); // 2: the test tells a leak
        System.out.println(x.found(0, 10)); // 2: the set of flanges found, here flange 1 alone
        System.out.println(x.seal(1)); // 40: its leak before

        System.out.println(x.writeReport()); // 14: bytes, "chamber 0 984" and a line feed
        System.out.println((char) x.reportByte(0)); // c: the first of them
        System.out.println(x.undo()); // 3: changes that can still be undone
    }
    // end of the example
}
