import java.io.IOException;
import java.lang.reflect.Constructor;
import java.lang.reflect.Field;
import java.lang.reflect.Method;
import java.lang.reflect.Modifier;
import java.nio.charset.StandardCharsets;
import java.nio.file.Files;
import java.nio.file.Path;
import java.util.ArrayList;
import java.util.Arrays;
import java.util.List;
import java.util.Set;
import java.util.TreeSet;

/** The public face of the document, with the exceptions of each method, and rules of LANGUAGE.md. */
public final class FaceTest {
    private static final Path SOURCE = Path.of("src/main/java/RingKiln.java");
    // I, A, S, U, N and R stand for the exceptions as in names().
    private static final String[] FACE = {
        "int load(int, int) IASU", "int unload(int) ISU", "int light(int) ISU", "int quench() S",
        "int setDraught(int) A", "int passHours(int) A", "int addFuel(char, int) AS", "int setPrice(char, int) A",
        "int feed(int) AUS", "int buildWall(int, int) ANS", "int time()", "boolean isLit()", "int fireChamber() N",
        "int heat()", "int draught()", "char state(int) I", "int bricks(int) I", "int temperature(int) I",
        "int chamberAtRank(int) N", "int chambersIn(char) A", "int hoursUntilOut() N", "int hoursUntilCool(int) IN",
        "int firedIn(int) A", "int fuel(char) A", "int price(char) A", "int lowestCost(int) AU",
        "int lowestCostByTrying(int) AU", "int piecesInMixture(char, int) AU", "int courseCount(int) A",
        "long wallCount(int, int) A", "long wallCountByMemory(int, int) A", "int fewestBricks(int, int) AN",
        "int stock()", "int walls()", "int brickTotal()", "int brickTotalByAccounts()", "int paidTotal()",
        "double meanTemperature()", "float firedShare() R", "boolean isConsistent()", "int append(char) S",
        "int run() AU", "int errorPosition() N", "int failedCommand() N", "int writeRing()",
        "int writeFirstCourse(int) A", "char outputAt(int) I", "int undo() S", "void save()", "void restore() S"
    };

    private FaceTest() {
    }

    public static void main(String[] args) throws IOException {
        face();
        members();
        source();
        Check.finish();
    }

    private static String letter(Class<?> exception) {
        return switch (exception.getSimpleName()) {
            case "IndexOutOfBoundsException" -> "I";
            case "IllegalArgumentException" -> "A";
            case "IllegalStateException" -> "S";
            case "UnsupportedOperationException" -> "U";
            case "NoSuchElementException" -> "N";
            case "ArithmeticException" -> "R";
            default -> "?";
        };
    }

    private static String describe(Method method) {
        List<String> types = new ArrayList<>();
        for (Class<?> type : method.getParameterTypes()) types.add(type.getSimpleName());
        StringBuilder letters = new StringBuilder();
        for (Class<?> exception : method.getExceptionTypes()) letters.append(letter(exception));
        return method.getReturnType().getSimpleName() + " " + method.getName() + "(" + String.join(", ", types) + ")"
                + (letters.length() == 0 ? "" : " " + letters);
    }

    private static void face() {
        Check.topic("the public face");
        Set<String> due = new TreeSet<>(Arrays.asList(FACE));
        Set<String> got = new TreeSet<>();
        for (Method method : RingKiln.class.getDeclaredMethods()) {
            if (!Modifier.isPrivate(method.getModifiers())) got.add(describe(method));
        }
        Check.due(due, got);
        Check.due(Modifier.PUBLIC | Modifier.FINAL, RingKiln.class.getModifiers());
        Constructor<?>[] constructors = RingKiln.class.getDeclaredConstructors();
        Check.due("[public RingKiln()]", Arrays.toString(constructors));
    }

    private static void members() {
        Check.topic("rules 1, 2, 5 and 11 of LANGUAGE.md");
        Set<String> publicNames = new TreeSet<>();
        for (Method method : RingKiln.class.getMethods()) publicNames.add(method.getName());
        for (Field field : RingKiln.class.getDeclaredFields()) {
            Check.due(field + " private", field + (Modifier.isPrivate(field.getModifiers()) ? " private" : ""));
        }
        List<Class<?>> classes = new ArrayList<>(List.of(RingKiln.class.getDeclaredClasses()));
        Check.due(true, classes.size() < 12);
        for (Class<?> inside : classes) Check.due(true, Modifier.isStatic(inside.getModifiers()));
        classes.add(RingKiln.class);
        for (Class<?> each : classes) {
            for (Method method : each.getDeclaredMethods()) {
                boolean hidden = Modifier.isPrivate(method.getModifiers());
                Check.due(method + " false", method + " " + (hidden && publicNames.contains(method.getName())));
                Check.due(true, method.getParameterCount() <= 7);
            }
            int fields = 0;
            for (Field field : each.getDeclaredFields()) {
                if (!Modifier.isStatic(field.getModifiers())) fields++;
                else Check.due(field + " true", field + " " + Modifier.isFinal(field.getModifiers()));
            }
            Check.due(true, fields <= 20);
        }
    }

    private static void source() throws IOException {
        Check.topic("rules 3, 4, 6 and 10 of LANGUAGE.md");
        String text = Files.readString(SOURCE, StandardCharsets.ISO_8859_1);
        Check.due(true, text.chars().allMatch(sign -> sign == '\n' || sign >= 32 && sign < 127));
        for (String line : text.split("\n")) {
            if (line.startsWith("import ")) Check.due("import java.util.NoSuchElementException;", line);
            Check.due("", line.length() > 110 ? line : "");
        }
        String code = text.replaceAll("(?s)/\\*.*?\\*/", "").replaceAll("//.*", "");
        String[] banned = {"->", "::", "catch", "finally", "assert", "synchronized", "volatile", "Exact(", "var ",
            "Object", "System.out", "String.format", "NaN", "ArrayIndex", "NullPointer"};
        for (String word : banned) Check.due(word + " false", word + " " + code.contains(word));
    }
}
