import java.lang.reflect.InvocationTargetException;
import java.lang.reflect.Method;
import java.util.ArrayList;
import java.util.Arrays;
import java.util.Comparator;
import java.util.HashMap;
import java.util.List;
import java.util.Map;
import java.util.Set;
import java.util.TreeSet;

/** Makes long runs of calls, the same at every start, on the program and on the model beside each other. */
public final class ModelTest {
    private static final int RUNS = 400;
    private static final int CALLS = 512;
    private static final String[] FAVOURITES = {
        "load", "load", "load", "unload", "unload", "light", "light", "passHours", "passHours", "addFuel",
        "addFuel", "feed", "feed", "buildWall", "undo", "run", "run", "run", "run", "setDraught"
    };
    private static final String[] COMMANDS = {
        "load ", "take ", "light ", "out", "draught ", "fuel ", "price ", "feed ", "pass ", "wall "
    };

    private static final Map<String, Method> OF_MODEL = new HashMap<>();
    private static final List<Method> METHODS = new ArrayList<>();
    private static final Set<String> SEEN = new TreeSet<>();

    private final RingKiln kiln = new RingKiln();
    private final Model model = new Model();
    private final List<String> calls = new ArrayList<>();
    private long seed;
    private int wrong = 0;
    private boolean walking = false;

    private ModelTest(long seed) {
        this.seed = seed;
    }

    public static void main(String[] args) {
        for (Method method : RingKiln.class.getDeclaredMethods()) {
            if (java.lang.reflect.Modifier.isPublic(method.getModifiers())) METHODS.add(method);
        }
        METHODS.sort(Comparator.comparing(Method::getName));
        for (Method method : Model.class.getDeclaredMethods()) OF_MODEL.put(method.getName(), method);
        Check.topic("runs beside the model");
        for (int run = 1; run <= RUNS; run++) new ModelTest(run * 7919L).walk(run);
        compareSlowCooling();
        compareFullBuffer();
        compareExtremes();
        compareAllMixtures();
        compareAllWalls();
        askForAllOutcomes();
        Check.finish();
    }

    /** Returns a number from 0 to below the bound, from a seed that is the same at every start. */
    private int below(int bound) {
        seed = seed * 6364136223846793005L + 1442695040888963407L;
        return (int) ((seed >>> 33) % bound);
    }

    private int within(int least, int most) {
        return least + below(most - least + 1);
    }

    private void walk(int run) {
        walking = true;
        for (int step = 0; step < 10; step++) both(method("append"), (char) within(97, 122));
        while (calls.size() < CALLS && wrong == 0) {
            String name = below(2) == 0 ? FAVOURITES[below(FAVOURITES.length)] : "";
            Method method = name.isEmpty() ? METHODS.get(below(METHODS.size())) : method(name);
            if (method.getName().equals("run") && below(8) > 0) typeProgram();
            both(method, arguments(method));
            if (method.getName().startsWith("write")) readLine();
        }
        compareAnswers(run);
    }

    private static Method method(String name) {
        return METHODS.stream().filter(m -> m.getName().equals(name)).findFirst().get();
    }

    private void typeProgram() {
        StringBuilder text = new StringBuilder();
        int commands = within(1, 4);
        for (int i = 0; i < commands; i++) text.append(i == 0 ? "" : ";").append(command());
        if (below(3) == 0) {
            int at = below(text.length());
            switch (below(4)) {
                case 0 -> text.setCharAt(at, (char) within(32, 126));
                case 1 -> text.deleteCharAt(at);
                case 2 -> text.insert(at, "0123456789;: wcoxl".charAt(below(18)));
                default -> text.setLength(at);
            }
        }
        for (char character : text.toString().toCharArray()) both(method("append"), character);
    }

    private String command() {
        String word = COMMANDS[below(COMMANDS.length)];
        return word + switch (word.charAt(0) + "" + word.charAt(1)) {
            case "lo" -> below(9) + " " + within(0, 61);
            case "ta", "li" -> "" + below(9);
            case "dr" -> "" + below(7);
            case "fu" -> "wco".charAt(below(3)) + " " + within(0, 51);
            case "pr" -> "wco".charAt(below(3)) + " " + within(0, 21);
            case "fe" -> "" + within(0, 201);
            case "pa" -> "" + (below(3) == 0 ? within(0, 49) : within(1, 9));
            case "wa" -> within(1, 19) + " " + below(10);
            default -> "";
        };
    }

    private Object[] arguments(Method method) {
        boolean wild = below(12) == 0;
        return switch (method.getName()) {
            case "load" -> new Object[] {wild ? within(-1, 8) : below(8), wild ? within(0, 61) : within(1, 60)};
            case "unload", "light", "state", "bricks", "temperature", "hoursUntilCool" ->
                new Object[] {wild ? within(-1, 8) : below(8)};
            case "setDraught" -> new Object[] {wild ? within(-1, 6) : below(3) == 0 ? within(0, 5) : 5};
            case "passHours" -> new Object[] {wild ? within(0, 49) : within(1, below(3) == 0 ? 48 : 8)};
            case "addFuel" -> new Object[] {kind(wild), wild ? within(0, 51) : within(1, 50)};
            case "setPrice" -> new Object[] {kind(wild), wild ? within(0, 21) : within(1, 20)};
            case "feed", "lowestCost", "lowestCostByTrying" -> new Object[] {units(wild)};
            case "piecesInMixture" -> new Object[] {kind(wild), units(wild)};
            case "courseCount", "writeFirstCourse" -> new Object[] {wild ? within(1, 19) : within(2, 18)};
            case "buildWall", "wallCount", "wallCountByMemory", "fewestBricks" ->
                new Object[] {wild ? within(1, 19) : within(2, 18), wild ? within(0, 9) : within(1, 8)};
            case "chamberAtRank" -> new Object[] {wild ? within(-1, 8) : below(8)};
            case "chambersIn" -> new Object[] {"egfx".charAt(below(4))};
            case "firedIn" -> new Object[] {wild ? within(-1, 101) : within(0, 100)};
            case "fuel", "price" -> new Object[] {kind(wild)};
            case "append" -> new Object[] {(char) (wild ? within(0, 65535) : within(32, 126))};
            case "outputAt" -> new Object[] {within(-1, wild ? 80 : 40)};
            default -> new Object[0];
        };
    }

    private int units(boolean wild) {
        return wild ? 200 * below(2) + within(-1, 2) : within(1, 200);
    }

    private char kind(boolean wild) {
        return wild ? (char) within(97, 122) : "wco".charAt(below(3));
    }

    private void readLine() {
        int length = 0;
        while (!outcome(model, OF_MODEL.get("outputAt"), length).startsWith("throws")) length++;
        for (int i = -1; i <= length; i++) both(method("outputAt"), i);
    }

    /** Makes a call on both; nothing is promised of later calls than those of the document. */
    private void both(Method method, Object... arguments) {
        if (calls.size() == CALLS) {
            if (!walking) Check.complain("too many calls on one object");
            return;
        }
        String got = outcome(kiln, method, arguments);
        String due = outcome(model, OF_MODEL.get(method.getName()), arguments);
        calls.add(method.getName() + Arrays.toString(arguments) + " " + got);
        SEEN.add(method.getName() + (due.startsWith("throws") ? " " + due : " answers"));
        if (!got.equals(due) && wrong++ == 0) {
            System.out.println("first wrong answer after these calls, due is " + due);
            calls.forEach(call -> System.out.println("  " + call));
        }
    }

    private static String outcome(Object target, Method method, Object... arguments) {
        try {
            return String.valueOf(method.invoke(target, arguments));
        } catch (InvocationTargetException thrown) {
            return "throws " + thrown.getCause().getClass().getSimpleName();
        } catch (IllegalAccessException impossible) {
            throw new AssertionError(impossible);
        }
    }

    private void compareAnswers(int run) {
        Check.due("run " + run + ": 0 wrong", "run " + run + ": " + wrong + " wrong");
    }

    /** Sees to it that the runs reach every exception that the document names. */
    private static void askForAllOutcomes() {
        for (Method method : METHODS) {
            Check.due(true, SEEN.contains(method.getName() + " answers"));
            for (Class<?> exception : method.getExceptionTypes()) {
                String outcome = method.getName() + " throws " + exception.getSimpleName();
                // No store of heat lasts for more than 99 hours, so the fire is always out by then.
                if (!method.getName().equals("hoursUntilOut") && !SEEN.contains(outcome)) {
                    Check.complain("no run reaches " + outcome);
                }
            }
        }
    }

    /** Fires the whole ring without a draught; the last chambers are hot for more than 100 hours. */
    private static void compareSlowCooling() {
        for (int hours = 0; hours < 120; hours++) {
            ModelTest pair = slowlyCooling();
            for (int left = hours; left > 0; left -= 48) pair.both(method("passHours"), Math.min(left, 48));
            pair.both(method("hoursUntilOut"));
            pair.both(method("firedIn"), hours % 101);
            pair.both(method("writeRing"));
            pair.readLine();
            for (int chamber = 0; chamber < 8; chamber++) {
                pair.both(method("hoursUntilCool"), chamber);
                pair.both(method("chamberAtRank"), chamber);
            }
            pair.compareAnswers(-3);
        }
    }

    private static ModelTest slowlyCooling() {
        ModelTest pair = new ModelTest(1);
        pair.both(method("setDraught"), 0);
        for (int chamber = 0; chamber < 8; chamber++) pair.both(method("load"), chamber, 60 - chamber);
        for (int times = 0; times < 5; times++) {
            pair.both(method("addFuel"), 'o', 20);
            pair.both(method("feed"), 200);
        }
        pair.both(method("light"), 7);
        pair.both(method("passHours"), 5);
        pair.both(method("quench"));
        pair.both(method("light"), 1);
        return pair;
    }

    private static void compareFullBuffer() {
        ModelTest pair = new ModelTest(1);
        for (int times = 0; times < 2; times++) {
            for (int i = 0; i < 62; i++) pair.both(method("append"), (char) ('\uffff' * times - i * times + i));
            pair.both(method("run"));
            pair.both(method("errorPosition"));
        }
        for (char character : "draught 5;".repeat(7).toCharArray()) pair.both(method("append"), character);
        pair.both(method("run"));
        pair.both(method("errorPosition"));
        pair.compareAnswers(-4);
    }

    /** Calls every method with the least and the greatest arguments that there are. */
    private static void compareExtremes() {
        int[] numbers = {Integer.MIN_VALUE, Integer.MIN_VALUE + 1, -1, 0, 1, Integer.MAX_VALUE - 1, Integer.MAX_VALUE};
        char[] characters = {'\0', 'w', 'W', 'e', '\u0177', '\uffff'};
        for (Method method : METHODS) {
            ModelTest pair = new ModelTest(1);
            Class<?>[] types = method.getParameterTypes();
            for (int i = 0; i < 49; i++) {
                Object[] arguments = new Object[types.length];
                for (int at = 0; at < types.length; at++) {
                    int choice = at == 0 ? i % 7 : i / 7;
                    if (types[at] == char.class) arguments[at] = characters[choice % 6];
                    else arguments[at] = numbers[choice];
                }
                pair.both(method, arguments);
            }
            pair.compareAnswers(-5);
        }
    }

    private static void compareAllMixtures() {
        int[][] fuels = {{50, 50, 50, 1, 3, 5}, {7, 3, 2, 3, 8, 12}, {0, 25, 17, 20, 20, 20}, {49, 0, 4, 1, 9, 4},
            {11, 9, 0, 2, 5, 1}, {30, 12, 6, 3, 8, 12}, {50, 20, 20, 1, 1, 1}, {5, 5, 5, 20, 1, 13}};
        for (int[] row : fuels) {
            for (int units = 0; units <= 201; units++) {
                ModelTest pair = new ModelTest(1);
                for (int kind = 0; kind < 3; kind++) {
                    char name = "wco".charAt(kind);
                    if (row[kind] > 0) pair.both(method("addFuel"), name, row[kind]);
                    pair.both(method("setPrice"), name, row[3 + kind]);
                }
                pair.both(method("lowestCost"), units);
                pair.both(method("lowestCostByTrying"), units);
                for (char kind : "wcox".toCharArray()) pair.both(method("piecesInMixture"), kind, units);
                pair.compareAnswers(-1);
            }
        }
    }

    private static void compareAllWalls() {
        for (int width = 1; width <= 19; width++) {
            ModelTest pair = new ModelTest(1);
            pair.both(method("courseCount"), width);
            pair.both(method("writeFirstCourse"), width);
            pair.readLine();
            for (int courses = 0; courses <= 9; courses++) {
                pair.both(method("wallCount"), width, courses);
                pair.both(method("wallCountByMemory"), width, courses);
                pair.both(method("fewestBricks"), width, courses);
            }
            pair.compareAnswers(-2);
        }
    }
}
