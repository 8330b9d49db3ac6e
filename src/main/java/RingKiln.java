import java.util.NoSuchElementException;

/**
 * A ring kiln: a fire moves from chamber to chamber and fires bricks, fuels are mixed as cheaply
 * as possible, chambers cool by the draught, and walls without continuous joints are counted and built.
 */
public final class RingKiln {
    // What an operation answers where it refuses; a true answer of an operation is never negative.
    private static final int NO_SUCH_INDEX = -1;
    private static final int BAD_ARGUMENT = -2;
    private static final int WRONG_STATE = -3;
    private static final int NOT_POSSIBLE = -4;
    private static final int NOT_FOUND = -5;

    private static final int NOT_STORED = -1;
    private static final int CHAMBERS = 8;
    private static final int MOST_HOURS = 48;
    private static final int LONGEST_FORECAST = 100;
    private static final int KINDS = 3;
    private static final int WOOD = 0;
    private static final int COAL = 1;
    private static final int OIL = 2;
    private static final int[] PIECE_HEATS = {3, 8, 12};
    private static final int MOST_UNITS = 200;
    private static final int LEAST_WIDTH = 2;
    private static final int MOST_WIDTH = 18;
    private static final int MOST_COURSES = 8;
    private static final int TEXT_LIMIT = 60;
    private static final Command[] COMMANDS = Command.values();

    private final Kiln kiln = new Kiln();
    private final Kiln before = new Kiln();
    private final Kiln forecast = new Kiln();
    private final Kiln saved = new Kiln();
    private boolean hasSaved = false;
    private final History history = new History();
    private final Mixer mixer = new Mixer();
    private final Courses courseBook = new Courses();
    private final Program program = new Program();
    private final StringBuilder line = new StringBuilder();
    private int lastErrorPosition = NOT_STORED;
    private int lastFailedCommand = NOT_STORED;

    /** Creates a kiln with empty chambers, without fuel, at time 0. */
    public RingKiln() {
    }

    // ---- chambers and fire

    public int load(int chamber, int bricks)
            throws IndexOutOfBoundsException, IllegalArgumentException, IllegalStateException,
                    UnsupportedOperationException {
        return change(Command.LOAD, chamber, bricks);
    }

    public int unload(int chamber)
            throws IndexOutOfBoundsException, IllegalStateException, UnsupportedOperationException {
        return change(Command.TAKE, chamber, 0);
    }

    public int light(int chamber)
            throws IndexOutOfBoundsException, IllegalStateException, UnsupportedOperationException {
        return change(Command.LIGHT, chamber, 0);
    }

    public int quench() throws IllegalStateException {
        return change(Command.OUT, 0, 0);
    }

    public int setDraught(int draught) throws IllegalArgumentException {
        return change(Command.DRAUGHT, draught, 0);
    }

    public int passHours(int hours) throws IllegalArgumentException {
        return change(Command.PASS, hours, 0);
    }

    // ---- fuels and walls

    public int addFuel(char kind, int pieces) throws IllegalArgumentException, IllegalStateException {
        return change(Command.FUEL, kind, pieces);
    }

    public int setPrice(char kind, int price) throws IllegalArgumentException {
        return change(Command.PRICE, kind, price);
    }

    public int feed(int units)
            throws IllegalArgumentException, UnsupportedOperationException, IllegalStateException {
        return change(Command.FEED, units, 0);
    }

    public int buildWall(int width, int courses)
            throws IllegalArgumentException, NoSuchElementException, IllegalStateException {
        return change(Command.WALL, width, courses);
    }

    // ---- queries about chambers and fire

    public int time() {
        return kiln.time;
    }

    public boolean isLit() {
        return kiln.fireIsLit();
    }

    public int fireChamber() throws NoSuchElementException {
        return answerOf(kiln.fireIsLit() ? kiln.fire : NOT_FOUND);
    }

    public int heat() {
        return kiln.heat;
    }

    public int draught() {
        return kiln.draught;
    }

    public char state(int chamber) throws IndexOutOfBoundsException {
        needChamber(chamber);
        return kiln.states[chamber];
    }

    public int bricks(int chamber) throws IndexOutOfBoundsException {
        needChamber(chamber);
        return kiln.bricks[chamber];
    }

    public int temperature(int chamber) throws IndexOutOfBoundsException {
        needChamber(chamber);
        return kiln.temperatures[chamber];
    }

    public int chamberAtRank(int rank) throws NoSuchElementException {
        return answerOf(kiln.chamberRanked(rank));
    }

    public int chambersIn(char state) throws IllegalArgumentException {
        boolean known = state == Kiln.EMPTY || state == Kiln.GREEN || state == Kiln.FIRED;
        return answerOf(known ? kiln.countIn(state) : BAD_ARGUMENT);
    }

    public int hoursUntilOut() throws NoSuchElementException {
        forecast.copyFrom(kiln);
        return answerOf(forecast.hoursTillFireIsOut());
    }

    public int hoursUntilCool(int chamber) throws IndexOutOfBoundsException, NoSuchElementException {
        needChamber(chamber);
        forecast.copyFrom(kiln);
        return answerOf(forecast.hoursTillCool(chamber));
    }

    public int firedIn(int hours) throws IllegalArgumentException {
        needWithin(hours, 0, LONGEST_FORECAST);
        forecast.copyFrom(kiln);
        return forecast.letHoursPass(hours);
    }

    // ---- queries about fuels

    public int fuel(char kind) throws IllegalArgumentException {
        return kiln.pieces[neededKind(kind)];
    }

    public int price(char kind) throws IllegalArgumentException {
        return kiln.prices[neededKind(kind)];
    }

    public int lowestCost(int units) throws IllegalArgumentException, UnsupportedOperationException {
        needWithin(units, 1, MOST_UNITS);
        return answerOf(costByTable(units));
    }

    public int lowestCostByTrying(int units)
            throws IllegalArgumentException, UnsupportedOperationException {
        needWithin(units, 1, MOST_UNITS);
        return answerOf(costByTrying(units));
    }

    public int piecesInMixture(char kind, int units)
            throws IllegalArgumentException, UnsupportedOperationException {
        int index = neededKind(kind);
        needWithin(units, 1, MOST_UNITS);
        boolean found = mixer.findBest(kiln.pieces, kiln.prices, units);
        return answerOf(found ? mixer.best[index] : NOT_POSSIBLE);
    }

    // ---- queries about walls

    public int courseCount(int width) throws IllegalArgumentException {
        needWidth(width);
        return courseBook.counts[width];
    }

    public long wallCount(int width, int courses) throws IllegalArgumentException {
        needWidth(width);
        needWithin(courses, 1, MOST_COURSES);
        return courseBook.countByTable(width, courses);
    }

    public long wallCountByMemory(int width, int courses) throws IllegalArgumentException {
        needWidth(width);
        needWithin(courses, 1, MOST_COURSES);
        return courseBook.countByMemory(width, courses);
    }

    public int fewestBricks(int width, int courses)
            throws IllegalArgumentException, NoSuchElementException {
        needWidth(width);
        needWithin(courses, 1, MOST_COURSES);
        return answerOf(courseBook.leastBricks(width, courses));
    }

    // ---- totals

    public int stock() {
        return kiln.stock;
    }

    public int walls() {
        return kiln.walls;
    }

    public int brickTotal() {
        return kiln.bricksInSight();
    }

    public int brickTotalByAccounts() {
        return kiln.loaded - kiln.used;
    }

    public int paidTotal() {
        return kiln.paid;
    }

    public double meanTemperature() {
        return (double) kiln.sumOfTemperatures() / (double) CHAMBERS;
    }

    public float firedShare() throws ArithmeticException {
        if (kiln.loaded == 0) {
            throw new ArithmeticException("no bricks were loaded");
        }
        return (float) kiln.fired / (float) kiln.loaded;
    }

    public boolean isConsistent() {
        return kiln.bricksInSight() == kiln.loaded - kiln.used
                && costByTable(10) == costByTrying(10)
                && costByTable(50) == costByTrying(50)
                && courseBook.countByTable(9, 3) == courseBook.countByMemory(9, 3)
                && kiln.fedHeat == kiln.heat + kiln.burntHeat;
    }

    // ---- programs

    public int append(char character) throws IllegalStateException {
        return answerOf(program.addCharacter(character));
    }

    public int run() throws IllegalArgumentException, UnsupportedOperationException {
        boolean isProgram = program.readText();
        program.clearText();
        if (!isProgram) {
            lastErrorPosition = program.position;
            throw new IllegalArgumentException("the text is not a program");
        }
        before.copyFrom(kiln);
        int done = carryOutCommands();
        if (done < program.count) {
            kiln.copyFrom(before);
            lastFailedCommand = done;
            throw new UnsupportedOperationException("a command fails");
        }
        history.remember(before);
        return done;
    }

    public int errorPosition() throws NoSuchElementException {
        return answerOf(lastErrorPosition == NOT_STORED ? NOT_FOUND : lastErrorPosition);
    }

    public int failedCommand() throws NoSuchElementException {
        return answerOf(lastFailedCommand == NOT_STORED ? NOT_FOUND : lastFailedCommand);
    }

    // ---- output

    public int writeRing() {
        line.setLength(0);
        for (int chamber = 0; chamber < CHAMBERS; chamber++) {
            if (chamber > 0) {
                line.append(' ');
            }
            kiln.writeChamber(chamber, line);
        }
        return line.length();
    }

    public int writeFirstCourse(int width) throws IllegalArgumentException {
        needWidth(width);
        line.setLength(0);
        int rest = width;
        // A brick of the length 2 comes before one of 3, but nothing fills a rest of 1.
        while (rest > 3) {
            line.append('2');
            rest -= 2;
        }
        line.append(rest == 3 ? '3' : '2');
        return line.length();
    }

    public char outputAt(int index) throws IndexOutOfBoundsException {
        if (index < 0 || index >= line.length()) {
            throw new IndexOutOfBoundsException("the output line has no such index");
        }
        return line.charAt(index);
    }

    // ---- undo and snapshot

    public int undo() throws IllegalStateException {
        return answerOf(history.takeBack(kiln));
    }

    public void save() {
        saved.copyFrom(kiln);
        hasSaved = true;
    }

    public void restore() throws IllegalStateException {
        if (!hasSaved) {
            throw new IllegalStateException("no state was saved");
        }
        kiln.copyFrom(saved);
        history.forget();
    }

    // ---- what the methods of the face share

    private static boolean isOutside(int value, int least, int most) {
        return value < least || value > most;
    }

    private static void needWithin(int value, int least, int most) {
        if (isOutside(value, least, most)) {
            throw new IllegalArgumentException("a number is out of range");
        }
    }

    private static void needWidth(int width) {
        needWithin(width, LEAST_WIDTH, MOST_WIDTH);
    }

    private static void needChamber(int chamber) {
        if (!isChamber(chamber)) {
            throw new IndexOutOfBoundsException("there is no such chamber");
        }
    }

    private static boolean isChamber(int chamber) {
        return !isOutside(chamber, 0, CHAMBERS - 1);
    }

    private static int neededKind(char kind) {
        int index = kindIndex(kind);
        if (index < 0) {
            throw new IllegalArgumentException("there is no such fuel");
        }
        return index;
    }

    /** Returns the index of a kind of fuel in the rows of fuels, or -1. */
    private static int kindIndex(int kind) {
        switch (kind) {
            case 'w':
                return WOOD;
            case 'c':
                return COAL;
            case 'o':
                return OIL;
            default:
                return -1;
        }
    }

    /** Returns an operation's answer, or throws the exception that its refusal stands for. */
    private static int answerOf(int outcome) {
        switch (outcome) {
            case NO_SUCH_INDEX:
                throw new IndexOutOfBoundsException("there is no such chamber");
            case BAD_ARGUMENT:
                throw new IllegalArgumentException("an argument is not allowed");
            case WRONG_STATE:
                throw new IllegalStateException("the state does not allow it");
            case NOT_POSSIBLE:
                throw new UnsupportedOperationException("it is not possible now");
            case NOT_FOUND:
                throw new NoSuchElementException("there is none");
            default:
                return outcome;
        }
    }

    private int change(Command command, int first, int second) {
        before.copyFrom(kiln);
        int answer = answerOf(carryOut(command, first, second));
        history.remember(before);
        return answer;
    }

    /** Carries a command out and returns its answer, or changes nothing and returns its refusal. */
    private int carryOut(Command command, int first, int second) {
        switch (command) {
            case LOAD:
                return kiln.fillChamber(first, second);
            case TAKE:
                return kiln.emptyChamber(first);
            case LIGHT:
                return kiln.lightFire(first);
            case OUT:
                return kiln.putFireOut();
            case DRAUGHT:
                return kiln.changeDraught(first);
            case FUEL:
                return kiln.addPieces(first, second);
            case PRICE:
                return kiln.changePrice(first, second);
            case FEED:
                return kiln.burnMixture(first, mixer);
            case PASS:
                return isOutside(first, 1, MOST_HOURS) ? BAD_ARGUMENT : kiln.letHoursPass(first);
            case WALL:
                return kiln.layWall(first, second, courseBook);
            default:
                return BAD_ARGUMENT;
        }
    }

    /** Carries the program's commands out up to the first one that fails; returns how many succeeded. */
    private int carryOutCommands() {
        for (int i = 0; i < program.count; i++) {
            int outcome = carryOut(program.commands[i], program.firsts[i], program.seconds[i]);
            if (outcome < 0) {
                return i;
            }
        }
        return program.count;
    }

    private int costByTable(int units) {
        return mixer.cheapestByTable(kiln.pieces, kiln.prices, units);
    }

    private int costByTrying(int units) {
        return mixer.findBest(kiln.pieces, kiln.prices, units) ? mixer.bestCost : NOT_POSSIBLE;
    }

    /** The whole state that undo, save and restore concern. */
    private static final class Kiln {
        static final char EMPTY = 'e';
        static final char GREEN = 'g';
        static final char FIRED = 'f';
        private static final int OUT = -1;
        private static final int MOST_BRICKS = 60;
        private static final int COLDEST = 20;
        private static final int COOL = 60;
        private static final int PREHEATED = 500;
        private static final int PREHEATING = 40;
        private static final int FIRING = 900;
        private static final int HOTTEST = 1100;
        private static final int HEATING = 150;
        private static final int HEAT_OF_AN_HOUR = 10;
        private static final int MOST_HEAT = 999;
        private static final int MOST_DRAUGHT = 5;
        private static final int COOLING_PART = 20;
        private static final int MOST_PIECES = 99;
        private static final int MOST_PIECES_ADDED = 50;
        private static final int MOST_PRICE = 20;

        private int time = 0;
        private int fire = OUT;
        private int heat = 0;
        private int draught = 1;
        private final char[] states = new char[CHAMBERS];
        private final int[] bricks = new int[CHAMBERS];
        private final int[] temperatures = new int[CHAMBERS];
        private final int[] pieces = new int[KINDS];
        private final int[] prices = {1, 3, 5};
        private int stock = 0;
        private int walls = 0;
        private int loaded = 0;
        private int fired = 0;
        private int used = 0;
        private int paid = 0;
        private int fedHeat = 0;
        private int burntHeat = 0;

        Kiln() {
            for (int chamber = 0; chamber < CHAMBERS; chamber++) {
                states[chamber] = EMPTY;
                temperatures[chamber] = COLDEST;
            }
        }

        void copyFrom(Kiln other) {
            time = other.time;
            fire = other.fire;
            heat = other.heat;
            draught = other.draught;
            System.arraycopy(other.states, 0, states, 0, CHAMBERS);
            System.arraycopy(other.bricks, 0, bricks, 0, CHAMBERS);
            System.arraycopy(other.temperatures, 0, temperatures, 0, CHAMBERS);
            System.arraycopy(other.pieces, 0, pieces, 0, KINDS);
            System.arraycopy(other.prices, 0, prices, 0, KINDS);
            stock = other.stock;
            walls = other.walls;
            loaded = other.loaded;
            fired = other.fired;
            used = other.used;
            paid = other.paid;
            fedHeat = other.fedHeat;
            burntHeat = other.burntHeat;
        }

        boolean fireIsLit() {
            return fire != OUT;
        }

        private boolean isCool(int chamber) {
            return temperatures[chamber] <= COOL;
        }

        int countIn(char wanted) {
            int count = 0;
            for (char found : states) {
                if (found == wanted) {
                    count++;
                }
            }
            return count;
        }

        int bricksInSight() {
            int sum = stock;
            for (int inChamber : bricks) {
                sum += inChamber;
            }
            return sum;
        }

        int sumOfTemperatures() {
            int sum = 0;
            for (int degrees : temperatures) {
                sum += degrees;
            }
            return sum;
        }

        int chamberRanked(int rank) {
            for (int chamber = 0; chamber < CHAMBERS; chamber++) {
                if (rankOf(chamber) == rank) {
                    return chamber;
                }
            }
            return NOT_FOUND;
        }

        private int rankOf(int chamber) {
            int ahead = 0;
            for (int other = 0; other < CHAMBERS; other++) {
                if (comesBefore(other, chamber)) {
                    ahead++;
                }
            }
            return ahead;
        }

        private boolean comesBefore(int one, int other) {
            if (temperatures[one] != temperatures[other]) {
                return temperatures[one] > temperatures[other];
            }
            if (bricks[one] != bricks[other]) {
                return bricks[one] > bricks[other];
            }
            return one < other;
        }

        void writeChamber(int chamber, StringBuilder line) {
            line.append(states[chamber]);
            if (states[chamber] != EMPTY) {
                line.append(bricks[chamber]);
            }
            line.append(':');
            line.append(temperatures[chamber]);
            if (chamber == fire) {
                line.append('*');
            }
        }

        int fillChamber(int chamber, int count) {
            if (!isChamber(chamber)) {
                return NO_SUCH_INDEX;
            }
            if (isOutside(count, 1, MOST_BRICKS)) {
                return BAD_ARGUMENT;
            }
            if (states[chamber] != EMPTY) {
                return WRONG_STATE;
            }
            if (!isCool(chamber)) {
                return NOT_POSSIBLE;
            }
            states[chamber] = GREEN;
            bricks[chamber] = count;
            loaded += count;
            return countIn(GREEN);
        }

        int emptyChamber(int chamber) {
            if (!isChamber(chamber)) {
                return NO_SUCH_INDEX;
            }
            if (states[chamber] != FIRED) {
                return WRONG_STATE;
            }
            if (!isCool(chamber)) {
                return NOT_POSSIBLE;
            }
            stock += bricks[chamber];
            bricks[chamber] = 0;
            states[chamber] = EMPTY;
            return stock;
        }

        int lightFire(int chamber) {
            if (!isChamber(chamber)) {
                return NO_SUCH_INDEX;
            }
            if (fireIsLit()) {
                return WRONG_STATE;
            }
            if (states[chamber] != GREEN) {
                return NOT_POSSIBLE;
            }
            fire = chamber;
            return heat;
        }

        int putFireOut() {
            if (!fireIsLit()) {
                return WRONG_STATE;
            }
            int chamber = fire;
            fire = OUT;
            return chamber;
        }

        int changeDraught(int wanted) {
            if (isOutside(wanted, 0, MOST_DRAUGHT)) {
                return BAD_ARGUMENT;
            }
            int previous = draught;
            draught = wanted;
            return previous;
        }

        int addPieces(int kind, int count) {
            int index = kindIndex(kind);
            if (index < 0 || isOutside(count, 1, MOST_PIECES_ADDED)) {
                return BAD_ARGUMENT;
            }
            if (pieces[index] + count > MOST_PIECES) {
                return WRONG_STATE;
            }
            pieces[index] += count;
            return pieces[index];
        }

        int changePrice(int kind, int wanted) {
            int index = kindIndex(kind);
            if (index < 0 || isOutside(wanted, 1, MOST_PRICE)) {
                return BAD_ARGUMENT;
            }
            int previous = prices[index];
            prices[index] = wanted;
            return previous;
        }

        int burnMixture(int units, Mixer mixer) {
            if (isOutside(units, 1, MOST_UNITS)) {
                return BAD_ARGUMENT;
            }
            if (!mixer.findBest(pieces, prices, units)) {
                return NOT_POSSIBLE;
            }
            if (heat + mixer.bestHeat > MOST_HEAT) {
                return WRONG_STATE;
            }
            for (int kind = 0; kind < KINDS; kind++) {
                pieces[kind] -= mixer.best[kind];
            }
            heat += mixer.bestHeat;
            fedHeat += mixer.bestHeat;
            paid += mixer.bestCost;
            return mixer.bestCost;
        }

        int layWall(int width, int courses, Courses courseBook) {
            if (isOutside(width, LEAST_WIDTH, MOST_WIDTH) || isOutside(courses, 1, MOST_COURSES)) {
                return BAD_ARGUMENT;
            }
            int needed = courseBook.leastBricks(width, courses);
            if (needed == NOT_FOUND) {
                return NOT_FOUND;
            }
            if (needed > stock) {
                return WRONG_STATE;
            }
            stock -= needed;
            used += needed;
            walls++;
            return needed;
        }

        int hoursTillFireIsOut() {
            for (int hours = 0; hours <= LONGEST_FORECAST; hours++) {
                if (!fireIsLit()) {
                    return hours;
                }
                passOneHour();
            }
            return NOT_FOUND;
        }

        int hoursTillCool(int chamber) {
            for (int hours = 0; hours <= LONGEST_FORECAST; hours++) {
                if (isCool(chamber)) {
                    return hours;
                }
                passOneHour();
            }
            return NOT_FOUND;
        }

        /** Lets hours pass and returns how many bricks become fired in them. */
        int letHoursPass(int hours) {
            int firedBefore = fired;
            for (int hour = 0; hour < hours; hour++) {
                passOneHour();
            }
            return fired - firedBefore;
        }

        private void passOneHour() {
            time++;
            if (fireIsLit() && heat < HEAT_OF_AN_HOUR) {
                fire = OUT;
            }
            if (fireIsLit()) {
                heatChambers();
            }
            coolChambers();
            if (fireIsLit() && temperatures[fire] >= FIRING) {
                finishChamber();
            }
        }

        private void heatChambers() {
            heat -= HEAT_OF_AN_HOUR;
            burntHeat += HEAT_OF_AN_HOUR;
            temperatures[fire] = Math.min(temperatures[fire] + HEATING, HOTTEST);
            int next = chamberAfter(fire);
            if (temperatures[next] < PREHEATED) {
                temperatures[next] = Math.min(temperatures[next] + PREHEATING, PREHEATED);
            }
        }

        private void coolChambers() {
            for (int chamber = 0; chamber < CHAMBERS; chamber++) {
                boolean heated = fireIsLit() && (chamber == fire || chamber == chamberAfter(fire));
                if (!heated) {
                    int excess = temperatures[chamber] - COLDEST;
                    temperatures[chamber] -= excess * (draught + 1) / COOLING_PART;
                }
            }
        }

        private void finishChamber() {
            if (states[fire] == GREEN) {
                states[fire] = FIRED;
                fired += bricks[fire];
            }
            int next = chamberAfter(fire);
            fire = states[next] == GREEN ? next : OUT;
        }

        private static int chamberAfter(int chamber) {
            return chamber == CHAMBERS - 1 ? 0 : chamber + 1;
        }
    }

    /** The states before the most recent changing calls. */
    private static final class History {
        private static final int DEPTH = 8;

        private final Kiln[] states = new Kiln[DEPTH];
        private int oldest = 0;
        private int size = 0;

        History() {
            for (int i = 0; i < DEPTH; i++) {
                states[i] = new Kiln();
            }
        }

        void remember(Kiln state) {
            states[(oldest + size) % DEPTH].copyFrom(state);
            if (size < DEPTH) {
                size++;
            } else {
                oldest = (oldest + 1) % DEPTH;
            }
        }

        /** Sets a kiln to the last remembered state; returns how many are left, or a refusal. */
        int takeBack(Kiln kiln) {
            if (size == 0) {
                return WRONG_STATE;
            }
            size--;
            kiln.copyFrom(states[(oldest + size) % DEPTH]);
            return size;
        }

        void forget() {
            size = 0;
        }
    }

    /** Finds the best mixture of fuels; the rows hold wood, coal and oil in this order. */
    private static final class Mixer {
        // A mixture of the lowest cost has no piece too many: it exceeds the units by less than the
        // heat of one piece.
        private static final int MOST_SURPLUS = 11;
        private static final int UNREACHED = 1000000;

        private final int[] lowest = new int[MOST_UNITS + MOST_SURPLUS + 1];
        private final int[] best = new int[KINDS];
        private int bestCost = 0;
        private int bestHeat = 0;
        private boolean found = false;

        Mixer() {
        }

        /** Returns the lowest cost for some units by a table for all amounts of heat, or a refusal. */
        int cheapestByTable(int[] pieces, int[] prices, int units) {
            int top = units + MOST_SURPLUS;
            lowest[0] = 0;
            for (int heat = 1; heat <= top; heat++) {
                lowest[heat] = UNREACHED;
            }
            for (int kind = 0; kind < KINDS; kind++) {
                extendTable(PIECE_HEATS[kind], pieces[kind], prices[kind], top);
            }
            int cost = UNREACHED;
            for (int heat = units; heat <= top; heat++) {
                cost = Math.min(cost, lowest[heat]);
            }
            return cost == UNREACHED ? NOT_POSSIBLE : cost;
        }

        private void extendTable(int pieceHeat, int pieces, int price, int top) {
            // Downwards, so that the smaller amounts are still those without this fuel.
            for (int heat = top; heat > 0; heat--) {
                for (int count = 1; count <= pieces && count * pieceHeat <= heat; count++) {
                    int cost = lowest[heat - count * pieceHeat] + count * price;
                    lowest[heat] = Math.min(lowest[heat], cost);
                }
            }
        }

        /** Finds the best mixture by trying pieces of oil and coal; returns whether there is one. */
        boolean findBest(int[] pieces, int[] prices, int units) {
            found = false;
            int mostOil = Math.min(pieces[OIL], piecesFor(units, PIECE_HEATS[OIL]));
            for (int oil = 0; oil <= mostOil; oil++) {
                int missing = Math.max(units - oil * PIECE_HEATS[OIL], 0);
                int mostCoal = Math.min(pieces[COAL], piecesFor(missing, PIECE_HEATS[COAL]));
                for (int coal = 0; coal <= mostCoal; coal++) {
                    int missingNow = Math.max(missing - coal * PIECE_HEATS[COAL], 0);
                    int wood = piecesFor(missingNow, PIECE_HEATS[WOOD]);
                    if (wood <= pieces[WOOD]) {
                        considerMixture(wood, coal, oil, prices);
                    }
                }
            }
            return found;
        }

        private static int piecesFor(int units, int pieceHeat) {
            return (units + pieceHeat - 1) / pieceHeat;
        }

        private void considerMixture(int wood, int coal, int oil, int[] prices) {
            int cost = wood * prices[WOOD] + coal * prices[COAL] + oil * prices[OIL];
            int heat = wood * PIECE_HEATS[WOOD] + coal * PIECE_HEATS[COAL] + oil * PIECE_HEATS[OIL];
            if (!found || isBetter(cost, heat, wood, coal)) {
                found = true;
                best[WOOD] = wood;
                best[COAL] = coal;
                best[OIL] = oil;
                bestCost = cost;
                bestHeat = heat;
            }
        }

        private boolean isBetter(int cost, int heat, int wood, int coal) {
            if (cost != bestCost) {
                return cost < bestCost;
            }
            if (heat != bestHeat) {
                return heat < bestHeat;
            }
            if (wood != best[WOOD]) {
                return wood > best[WOOD];
            }
            return coal > best[COAL];
        }
    }

    /** All courses of every width, each as the set of its joints: bit j is a joint at the distance j. */
    private static final class Courses {
        private static final int MOST_OF_A_WIDTH = 65;
        private static final int UNREACHED = 1000000;
        private static final long UNKNOWN = -1;

        private final int[][] joints = new int[MOST_WIDTH + 1][MOST_OF_A_WIDTH];
        private final int[] counts = new int[MOST_WIDTH + 1];
        private long[] ways = new long[MOST_OF_A_WIDTH];
        private long[] waysAbove = new long[MOST_OF_A_WIDTH];
        private int[] fewest = new int[MOST_OF_A_WIDTH];
        private int[] fewestAbove = new int[MOST_OF_A_WIDTH];
        private final long[][] memory = new long[MOST_COURSES][MOST_OF_A_WIDTH];

        Courses() {
            counts[0] = 1;
            for (int width = LEAST_WIDTH; width <= MOST_WIDTH; width++) {
                addCoursesEndingWith(2, width);
                addCoursesEndingWith(3, width);
            }
        }

        private void addCoursesEndingWith(int brick, int width) {
            int rest = width - brick;
            if (rest < 0) {
                return;
            }
            int lastJoint = rest == 0 ? 0 : 1 << rest;
            for (int i = 0; i < counts[rest] && counts[width] < MOST_OF_A_WIDTH; i++) {
                joints[width][counts[width]] = joints[rest][i] | lastJoint;
                counts[width]++;
            }
        }

        private static boolean canLie(int upperJoints, int lowerJoints) {
            return (upperJoints & lowerJoints) == 0;
        }

        /** Counts the walls course by course: ways holds the walls so far with each course on top. */
        long countByTable(int width, int courses) {
            int count = counts[width];
            for (int top = 0; top < count; top++) {
                ways[top] = 1;
            }
            for (int height = 2; height <= courses; height++) {
                addCourseToWays(joints[width], count);
            }
            long sum = 0;
            for (int top = 0; top < count; top++) {
                sum += ways[top];
            }
            return sum;
        }

        private void addCourseToWays(int[] sets, int count) {
            for (int upper = 0; upper < count; upper++) {
                long sum = 0;
                for (int lower = 0; lower < count; lower++) {
                    if (canLie(sets[upper], sets[lower])) {
                        sum += ways[lower];
                    }
                }
                waysAbove[upper] = sum;
            }
            long[] row = ways;
            ways = waysAbove;
            waysAbove = row;
        }

        /** Counts the walls from the bottom course up, remembering the numbers that were found. */
        long countByMemory(int width, int courses) {
            int count = counts[width];
            for (int above = 1; above < courses; above++) {
                for (int course = 0; course < count; course++) {
                    memory[above][course] = UNKNOWN;
                }
            }
            long sum = 0;
            for (int bottom = 0; bottom < count; bottom++) {
                sum += countAbove(joints[width], count, bottom, courses - 1, memory);
            }
            return sum;
        }

        /** Returns in how many ways some more courses can lie above a course; at most 7, so deep it goes. */
        private static long countAbove(int[] sets, int count, int course, int above, long[][] memory) {
            if (above <= 0 || above >= MOST_COURSES) {
                return 1;
            }
            if (memory[above][course] == UNKNOWN) {
                long sum = 0;
                for (int next = 0; next < count; next++) {
                    if (canLie(sets[next], sets[course])) {
                        sum += countAbove(sets, count, next, above - 1, memory);
                    }
                }
                memory[above][course] = sum;
            }
            return memory[above][course];
        }

        /** Returns the least number of bricks of a wall, or a refusal. */
        int leastBricks(int width, int courses) {
            int count = counts[width];
            for (int top = 0; top < count; top++) {
                fewest[top] = bricksIn(joints[width][top]);
            }
            for (int height = 2; height <= courses; height++) {
                addCourseToFewest(joints[width], count);
            }
            int least = UNREACHED;
            for (int top = 0; top < count; top++) {
                least = Math.min(least, fewest[top]);
            }
            return least == UNREACHED ? NOT_FOUND : least;
        }

        private void addCourseToFewest(int[] sets, int count) {
            for (int upper = 0; upper < count; upper++) {
                int least = UNREACHED;
                for (int lower = 0; lower < count; lower++) {
                    if (fewest[lower] < UNREACHED && canLie(sets[upper], sets[lower])) {
                        least = Math.min(least, fewest[lower] + bricksIn(sets[upper]));
                    }
                }
                fewestAbove[upper] = least;
            }
            int[] row = fewest;
            fewest = fewestAbove;
            fewestAbove = row;
        }

        private static int bricksIn(int jointSet) {
            return Integer.bitCount(jointSet) + 1;
        }
    }

    /** The commands of programs; in a pattern # is a digit, @ a kind of fuel and % a number. */
    private enum Command {
        LOAD("load # %"),
        TAKE("take #"),
        LIGHT("light #"),
        OUT("out"),
        DRAUGHT("draught #"),
        FUEL("fuel @ %"),
        PRICE("price @ %"),
        FEED("feed %"),
        PASS("pass %"),
        WALL("wall % #");

        private final String pattern;

        Command(String pattern) {
            this.pattern = pattern;
        }
    }

    /** The text buffer and the commands that were read from it. */
    private static final class Program {
        private static final char ANY_DIGIT = '#';
        private static final char ANY_KIND = '@';
        private static final char ANY_NUMBER = '%';
        private static final int MOST_DIGITS = 3;
        private static final int MOST_VALUES = 2;
        // The shortest command and the semicolon after it take four characters.
        private static final int MOST_COMMANDS = TEXT_LIMIT / 4 + 1;

        private final char[] text = new char[TEXT_LIMIT];
        private int length = 0;
        private int position = 0;
        private final Command[] commands = new Command[MOST_COMMANDS];
        private final int[] firsts = new int[MOST_COMMANDS];
        private final int[] seconds = new int[MOST_COMMANDS];
        private int count = 0;
        private final int[] values = new int[MOST_VALUES];
        private int valueCount = 0;

        Program() {
        }

        int addCharacter(char character) {
            if (length >= TEXT_LIMIT) {
                return WRONG_STATE;
            }
            text[length] = character;
            length++;
            return length;
        }

        void clearText() {
            length = 0;
        }

        /** Reads the commands; if the text is not a program, the position is the error position. */
        boolean readText() {
            count = 0;
            position = 0;
            for (int commandsBefore = 0; commandsBefore < MOST_COMMANDS; commandsBefore++) {
                if (!readCommand()) {
                    return false;
                }
                if (position >= length) {
                    return true;
                }
                if (text[position] != ';') {
                    return false;
                }
                position++;
            }
            return false;
        }

        private boolean readCommand() {
            int start = position;
            int farthest = start;
            for (Command command : COMMANDS) {
                position = start;
                if (followPattern(command.pattern)) {
                    keepCommand(command);
                    return true;
                }
                farthest = Math.max(farthest, position);
            }
            position = farthest;
            return false;
        }

        private void keepCommand(Command command) {
            commands[count] = command;
            firsts[count] = values[0];
            seconds[count] = values[1];
            count++;
        }

        /** Moves the position over all of a pattern, or up to the first character that does not fit. */
        private boolean followPattern(String pattern) {
            valueCount = 0;
            for (int i = 0; i < pattern.length(); i++) {
                char wanted = pattern.charAt(i);
                boolean fits = wanted == ANY_NUMBER ? readNumber() : readCharacter(wanted);
                if (!fits) {
                    return false;
                }
            }
            return true;
        }

        private boolean readCharacter(char wanted) {
            if (position >= length) {
                return false;
            }
            char character = text[position];
            if (wanted == ANY_DIGIT) {
                if (!isDigit(character)) {
                    return false;
                }
                addValue(character - '0');
            } else if (wanted == ANY_KIND) {
                if (kindIndex(character) < 0) {
                    return false;
                }
                addValue(character);
            } else if (character != wanted) {
                return false;
            }
            position++;
            return true;
        }

        private boolean readNumber() {
            int number = 0;
            int digits = 0;
            while (digits < MOST_DIGITS && position < length && isDigit(text[position])) {
                number = 10 * number + (text[position] - '0');
                digits++;
                position++;
            }
            addValue(number);
            return digits > 0;
        }

        private static boolean isDigit(char character) {
            return character >= '0' && character <= '9';
        }

        private void addValue(int value) {
            if (valueCount < MOST_VALUES) {
                values[valueCount] = value;
                valueCount++;
            }
        }
    }
}
