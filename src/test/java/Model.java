import java.util.ArrayDeque;
import java.util.ArrayList;
import java.util.Arrays;
import java.util.Collections;
import java.util.Comparator;
import java.util.HashMap;
import java.util.List;
import java.util.Map;
import java.util.NoSuchElementException;
import java.util.regex.Matcher;
import java.util.regex.Pattern;

/**
 * The document once more, written in another way than the program and without any care for speed:
 * mixtures and walls by trying all of them, programs by a regular expression, undo by whole copies.
 */
public final class Model {
    private static final Map<String, long[]> WALLS = new HashMap<>();
    private static final String COMMAND = "(load [0-9] [0-9]{1,3}|take [0-9]|light [0-9]|out|draught [0-9]"
            + "|fuel [wco] [0-9]{1,3}|price [wco] [0-9]{1,3}|feed [0-9]{1,3}|pass [0-9]{1,3}"
            + "|wall [0-9]{1,3} [0-9])";
    private static final Pattern PROGRAM = Pattern.compile(COMMAND + "(;" + COMMAND + ")*", Pattern.DOTALL);

    private static final class State implements Cloneable {
        int time, heat, stock, walls, loaded, fired, used, paid;
        int draught = 1;
        int fire = -1;
        String states = "eeeeeeee";
        int[] bricks = new int[8];
        int[] temperatures = {20, 20, 20, 20, 20, 20, 20, 20};
        Map<Character, Integer> fuel = new HashMap<>(Map.of('w', 0, 'c', 0, 'o', 0));
        Map<Character, Integer> price = new HashMap<>(Map.of('w', 1, 'c', 3, 'o', 5));

        State copy() {
            try {
                State copy = (State) clone();
                copy.bricks = bricks.clone();
                copy.temperatures = temperatures.clone();
                copy.fuel = new HashMap<>(fuel);
                copy.price = new HashMap<>(price);
                return copy;
            } catch (CloneNotSupportedException impossible) {
                throw new AssertionError(impossible);
            }
        }

        void setState(int chamber, char state) {
            StringBuilder text = new StringBuilder(states);
            text.setCharAt(chamber, state);
            states = text.toString();
        }

        int hour() {
            int firedNow = 0;
            time += 1;
            if (fire >= 0 && heat < 10) {
                fire = -1;
            }
            int next = (fire + 1) % 8;
            if (fire >= 0) {
                heat -= 10;
                temperatures[fire] = Math.min(1100, temperatures[fire] + 150);
                if (temperatures[next] < 500) {
                    temperatures[next] = Math.min(500, temperatures[next] + 40);
                }
            }
            for (int i = 0; i < 8; i++) {
                if (fire < 0 || i != fire && i != next) {
                    temperatures[i] -= Math.floorDiv((temperatures[i] - 20) * (draught + 1), 20);
                }
            }
            if (fire >= 0 && temperatures[fire] >= 900) {
                if (states.charAt(fire) == 'g') {
                    setState(fire, 'f');
                    firedNow = bricks[fire];
                    fired += firedNow;
                }
                fire = states.charAt(next) == 'g' ? next : -1;
            }
            return firedNow;
        }
    }

    private State now = new State();
    private State saved = null;
    private ArrayDeque<State> undoable = new ArrayDeque<>();
    private boolean inProgram = false;
    private String text = "";
    private String line = "";
    private int errorPosition = -1;
    private int failedCommand = -1;

    private void changing() {
        if (!inProgram) {
            undoable.addLast(now.copy());
            if (undoable.size() > 8) {
                undoable.removeFirst();
            }
        }
    }

    private static void chamber(int chamber) {
        if (chamber < 0 || chamber > 7) throw new IndexOutOfBoundsException();
    }

    private static void range(int value, int least, int most) {
        if (value < least || value > most) throw new IllegalArgumentException();
    }

    private static void kind(char kind) {
        if ("wco".indexOf(kind) < 0) throw new IllegalArgumentException();
    }

    public int load(int chamber, int bricks) {
        chamber(chamber);
        range(bricks, 1, 60);
        if (now.states.charAt(chamber) != 'e') throw new IllegalStateException();
        if (now.temperatures[chamber] > 60) throw new UnsupportedOperationException();
        changing();
        now.setState(chamber, 'g');
        now.bricks[chamber] = bricks;
        now.loaded += bricks;
        return chambersIn('g');
    }

    public int unload(int chamber) {
        chamber(chamber);
        if (now.states.charAt(chamber) != 'f') throw new IllegalStateException();
        if (now.temperatures[chamber] > 60) throw new UnsupportedOperationException();
        changing();
        now.setState(chamber, 'e');
        now.stock += now.bricks[chamber];
        now.bricks[chamber] = 0;
        return now.stock;
    }

    public int light(int chamber) {
        chamber(chamber);
        if (now.fire >= 0) throw new IllegalStateException();
        if (now.states.charAt(chamber) != 'g') throw new UnsupportedOperationException();
        changing();
        now.fire = chamber;
        return now.heat;
    }

    public int quench() {
        if (now.fire < 0) throw new IllegalStateException();
        changing();
        int was = now.fire;
        now.fire = -1;
        return was;
    }

    public int setDraught(int draught) {
        range(draught, 0, 5);
        changing();
        int was = now.draught;
        now.draught = draught;
        return was;
    }

    public int passHours(int hours) {
        range(hours, 1, 48);
        changing();
        int sum = 0;
        for (int i = 0; i < hours; i++) sum += now.hour();
        return sum;
    }

    public int addFuel(char kind, int pieces) {
        kind(kind);
        range(pieces, 1, 50);
        if (now.fuel.get(kind) + pieces > 99) throw new IllegalStateException();
        changing();
        now.fuel.put(kind, now.fuel.get(kind) + pieces);
        return now.fuel.get(kind);
    }

    public int setPrice(char kind, int price) {
        kind(kind);
        range(price, 1, 20);
        changing();
        return now.price.put(kind, price);
    }

    /** Returns cost, heat, wood, coal and oil of the best mixture, by trying all of them. */
    private int[] best(int units) {
        range(units, 1, 200);
        int[] best = null;
        // More than 70 pieces of wood, 28 of coal or 20 of oil hold a piece that the units can spare.
        for (int w = 0; w <= Math.min(70, now.fuel.get('w')); w++) {
            for (int c = 0; c <= Math.min(28, now.fuel.get('c')); c++) {
                for (int o = 0; o <= Math.min(20, now.fuel.get('o')); o++) {
                    int heat = 3 * w + 8 * c + 12 * o;
                    int cost = w * now.price.get('w') + c * now.price.get('c') + o * now.price.get('o');
                    int[] key = {cost, heat, -w, -c, o};
                    if (heat >= units && (best == null || Arrays.compare(key, best) < 0)) best = key;
                }
            }
        }
        if (best == null) throw new UnsupportedOperationException();
        return new int[] {best[0], best[1], -best[2], -best[3], best[4]};
    }

    public int feed(int units) {
        int[] best = best(units);
        if (now.heat + best[1] > 999) throw new IllegalStateException();
        changing();
        now.heat += best[1];
        now.paid += best[0];
        now.fuel.put('w', now.fuel.get('w') - best[2]);
        now.fuel.put('c', now.fuel.get('c') - best[3]);
        now.fuel.put('o', now.fuel.get('o') - best[4]);
        return best[0];
    }

    /** Returns all courses with a width as texts like "2232", in their order. */
    static List<String> courses(int width) {
        List<String> found = new ArrayList<>();
        if (width == 0) found.add("");
        for (int brick = 2; brick <= Math.min(3, width); brick++) {
            for (String rest : courses(width - brick)) found.add(brick + rest);
        }
        Collections.sort(found);
        return found;
    }

    private static List<Integer> jointsOf(String course) {
        List<Integer> joints = new ArrayList<>();
        int distance = 0;
        for (int i = 0; i < course.length() - 1; i++) {
            distance += course.charAt(i) - '0';
            joints.add(distance);
        }
        return joints;
    }

    /** Returns for each course those that can lie on it. */
    private static List<List<Integer>> fitting(List<String> courses) {
        List<List<Integer>> fitting = new ArrayList<>();
        for (String below : courses) {
            List<Integer> above = new ArrayList<>();
            for (int i = 0; i < courses.size(); i++) {
                if (Collections.disjoint(jointsOf(courses.get(i)), jointsOf(below))) above.add(i);
            }
            fitting.add(above);
        }
        return fitting;
    }

    /** Returns the number of walls and the fewest bricks, by building all walls one after the other. */
    private static long[] allWalls(int width, int courses) {
        range(width, 2, 18);
        range(courses, 1, 8);
        return WALLS.computeIfAbsent(width + " " + courses, key -> {
            List<String> bottoms = courses(width);
            List<List<Integer>> fitting = fitting(bottoms);
            long[] result = {0, Long.MAX_VALUE};
            for (int i = 0; i < bottoms.size(); i++) {
                buildUp(bottoms, fitting, i, courses - 1, bottoms.get(i).length(), result);
            }
            return result;
        });
    }

    private static void buildUp(List<String> courses, List<List<Integer>> fitting, int top, int left,
            int bricks, long[] result) {
        if (left == 0) {
            result[0]++;
            result[1] = Math.min(result[1], bricks);
            return;
        }
        for (int next : fitting.get(top)) {
            buildUp(courses, fitting, next, left - 1, bricks + courses.get(next).length(), result);
        }
    }

    public int buildWall(int width, int courses) {
        int fewest = fewestBricks(width, courses);
        if (now.stock < fewest) throw new IllegalStateException();
        changing();
        now.stock -= fewest;
        now.used += fewest;
        now.walls++;
        return fewest;
    }

    public int time() {
        return now.time;
    }

    public boolean isLit() {
        return now.fire >= 0;
    }

    public int fireChamber() {
        if (now.fire < 0) throw new NoSuchElementException();
        return now.fire;
    }

    public int heat() {
        return now.heat;
    }

    public int draught() {
        return now.draught;
    }

    public char state(int chamber) {
        chamber(chamber);
        return now.states.charAt(chamber);
    }

    public int bricks(int chamber) {
        chamber(chamber);
        return now.bricks[chamber];
    }

    public int temperature(int chamber) {
        chamber(chamber);
        return now.temperatures[chamber];
    }

    public int chamberAtRank(int rank) {
        if (rank < 0 || rank > 7) throw new NoSuchElementException();
        List<Integer> ranked = new ArrayList<>(List.of(0, 1, 2, 3, 4, 5, 6, 7));
        ranked.sort(Comparator.<Integer>comparingInt(i -> -now.temperatures[i])
                .thenComparingInt(i -> -now.bricks[i]));
        return ranked.get(rank);
    }

    public int chambersIn(char state) {
        if ("egf".indexOf(state) < 0) throw new IllegalArgumentException();
        return (int) now.states.chars().filter(c -> c == state).count();
    }

    public int hoursUntilOut() {
        State ahead = now.copy();
        for (int hours = 0; hours <= 100; hours++, ahead.hour()) {
            if (ahead.fire < 0) return hours;
        }
        throw new NoSuchElementException();
    }

    public int hoursUntilCool(int chamber) {
        chamber(chamber);
        State ahead = now.copy();
        for (int hours = 0; hours <= 100; hours++, ahead.hour()) {
            if (ahead.temperatures[chamber] <= 60) return hours;
        }
        throw new NoSuchElementException();
    }

    public int firedIn(int hours) {
        range(hours, 0, 100);
        State ahead = now.copy();
        int sum = 0;
        for (int i = 0; i < hours; i++) sum += ahead.hour();
        return sum;
    }

    public int fuel(char kind) {
        kind(kind);
        return now.fuel.get(kind);
    }

    public int price(char kind) {
        kind(kind);
        return now.price.get(kind);
    }

    public int lowestCost(int units) {
        return best(units)[0];
    }

    public int lowestCostByTrying(int units) {
        return best(units)[0];
    }

    public int piecesInMixture(char kind, int units) {
        kind(kind);
        return best(units)[2 + "wco".indexOf(kind)];
    }

    public int courseCount(int width) {
        range(width, 2, 18);
        return courses(width).size();
    }

    public long wallCount(int width, int courses) {
        return allWalls(width, courses)[0];
    }

    public long wallCountByMemory(int width, int courses) {
        return allWalls(width, courses)[0];
    }

    public int fewestBricks(int width, int courses) {
        long[] result = allWalls(width, courses);
        if (result[0] == 0) throw new NoSuchElementException();
        return (int) result[1];
    }

    public int stock() {
        return now.stock;
    }

    public int walls() {
        return now.walls;
    }

    public int brickTotal() {
        return now.stock + Arrays.stream(now.bricks).sum();
    }

    public int brickTotalByAccounts() {
        return now.loaded - now.used;
    }

    public int paidTotal() {
        return now.paid;
    }

    public double meanTemperature() {
        return Arrays.stream(now.temperatures).average().getAsDouble();
    }

    public float firedShare() {
        if (now.loaded == 0) throw new ArithmeticException();
        return (float) now.fired / (float) now.loaded;
    }

    public boolean isConsistent() {
        return true;
    }

    public int append(char character) {
        if (text.length() == 60) throw new IllegalStateException();
        text += character;
        return text.length();
    }

    private static boolean canBecomeProgram(String start) {
        Matcher matcher = PROGRAM.matcher(start);
        return matcher.matches() || matcher.hitEnd();
    }

    private void carryOut(String command) {
        String[] words = command.split(" ");
        int first = words.length > 1 && words[1].matches("[0-9]+") ? Integer.parseInt(words[1]) : 0;
        int second = words.length > 2 ? Integer.parseInt(words[2]) : 0;
        switch (words[0]) {
            case "load" -> load(first, second);
            case "take" -> unload(first);
            case "light" -> light(first);
            case "out" -> quench();
            case "draught" -> setDraught(first);
            case "fuel" -> addFuel(words[1].charAt(0), second);
            case "price" -> setPrice(words[1].charAt(0), second);
            case "feed" -> feed(first);
            case "pass" -> passHours(first);
            case "wall" -> buildWall(first, second);
            default -> throw new AssertionError(command);
        }
    }

    public int run() {
        String program = text;
        text = "";
        if (!PROGRAM.matcher(program).matches()) {
            errorPosition = program.length();
            for (int i = program.length(); i > 0; i--) {
                if (!canBecomeProgram(program.substring(0, i))) errorPosition = i - 1;
            }
            throw new IllegalArgumentException();
        }
        String[] commands = program.split(";");
        State before = now.copy();
        inProgram = true;
        int index = 0;
        try {
            for (; index < commands.length; index++) carryOut(commands[index]);
        } catch (RuntimeException failure) {
            now = before;
            failedCommand = index;
            throw new UnsupportedOperationException();
        } finally {
            inProgram = false;
        }
        State after = now;
        now = before;
        changing();
        now = after;
        return commands.length;
    }

    public int errorPosition() {
        if (errorPosition < 0) throw new NoSuchElementException();
        return errorPosition;
    }

    public int failedCommand() {
        if (failedCommand < 0) throw new NoSuchElementException();
        return failedCommand;
    }

    public int writeRing() {
        List<String> parts = new ArrayList<>();
        for (int i = 0; i < 8; i++) {
            char state = now.states.charAt(i);
            parts.add(state + (state == 'e' ? "" : "" + now.bricks[i]) + ":" + now.temperatures[i]
                    + (i == now.fire ? "*" : ""));
        }
        line = String.join(" ", parts);
        return line.length();
    }

    public int writeFirstCourse(int width) {
        range(width, 2, 18);
        line = courses(width).get(0);
        return line.length();
    }

    public char outputAt(int index) {
        if (index < 0 || index >= line.length()) throw new IndexOutOfBoundsException();
        return line.charAt(index);
    }

    public int undo() {
        if (undoable.isEmpty()) throw new IllegalStateException();
        now = undoable.removeLast();
        return undoable.size();
    }

    public void save() {
        saved = now.copy();
    }

    public void restore() {
        if (saved == null) throw new IllegalStateException();
        now = saved.copy();
        undoable.clear();
    }
}
