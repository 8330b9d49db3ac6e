import java.io.IOException;
import java.nio.file.Files;
import java.nio.file.Path;
import java.util.regex.Matcher;
import java.util.regex.Pattern;

/** Makes the calls that README.md shows and asks for the answers that it tells. */
public final class ReadmeTest {
    // What stands in README.md; when it changes there, the calls below change with it.
    private static final String SHOWN = """
            RingKiln kiln = new RingKiln();
            kiln.addFuel('o', 20);
            kiln.feed(120);
            kiln.load(7, 20);
            kiln.load(0, 5);
            kiln.light(7);
            kiln.passHours(11);
            int length = kiln.writeRing();
            kiln.undo();
            String text = "out;load 5 30;light 5;pass 2";
            for (int i = 0; i < text.length(); i++) {
                kiln.append(text.charAt(i));
            }
            kiln.run();
            kiln.undo();
            """;

    private ReadmeTest() {
    }

    public static void main(String[] args) throws IOException {
        Check.topic("README.md");
        Check.due(SHOWN, shown());
        RingKiln kiln = new RingKiln();
        showCalls(kiln);
        showProgram(kiln);
        Check.finish();
    }

    /** Returns the code of README.md without its comments. */
    private static String shown() throws IOException {
        Matcher block = Pattern.compile("(?s)```java\n(.*?)```").matcher(Files.readString(Path.of("README.md")));
        StringBuilder code = new StringBuilder();
        while (block.find()) code.append(block.group(1).replaceAll(" *//.*", ""));
        return code.toString();
    }

    private static void showCalls(RingKiln kiln) {
        Check.due(20, kiln.addFuel('o', 20));
        Check.due(50, kiln.feed(120));
        Check.due("10 120", kiln.fuel('o') + " " + kiln.heat());
        kiln.load(7, 20);
        kiln.load(0, 5);
        kiln.light(7);
        Check.due(25, kiln.passHours(11));
        int length = kiln.writeRing();
        Check.due(length, Kilns.line(kiln).length());
        Check.due("f5:1010 e:220 e:20 e:20 e:20 e:20 e:20 f20:553", Kilns.line(kiln));
        kiln.undo();
        Check.due("0 7", kiln.time() + " " + kiln.fireChamber());
    }

    private static void showProgram(RingKiln kiln) {
        String before = Kilns.stateOf(kiln);
        String text = "out;load 5 30;light 5;pass 2";
        for (int i = 0; i < text.length(); i++) {
            kiln.append(text.charAt(i));
        }
        Check.due(4, kiln.run());
        Check.due("5 2", kiln.fireChamber() + " " + kiln.time());
        kiln.undo();
        Check.due(before, Kilns.stateOf(kiln));
    }
}
