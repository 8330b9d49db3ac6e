/** Promises 8 to 11, 25 to 38 and 41: the fuels, the walls and the totals. */
public final class FuelsAndWallsTest {
    private static final Class<IllegalArgumentException> ARGUMENT = IllegalArgumentException.class;
    private static final Class<IllegalStateException> STATE = IllegalStateException.class;
    private static final Class<UnsupportedOperationException> UNSUPPORTED = UnsupportedOperationException.class;
    private static final Class<java.util.NoSuchElementException> MISSING = java.util.NoSuchElementException.class;

    private FuelsAndWallsTest() {
    }

    public static void main(String[] args) {
        addFuel();
        setPrice();
        feed();
        lowestCost();
        bestMixture();
        courses();
        wallCounts();
        fewestBricks();
        buildWall();
        totals();
        consistency();
        Check.finish();
    }

    private static void mixture(RingKiln kiln, int units, int cost, int wood, int coal, int oil) {
        Check.due(cost, kiln.lowestCost(units));
        Check.due(cost, kiln.lowestCostByTrying(units));
        Check.due(wood, kiln.piecesInMixture('w', units));
        Check.due(coal, kiln.piecesInMixture('c', units));
        Check.due(oil, kiln.piecesInMixture('o', units));
    }

    private static void addFuel() {
        Check.topic("promises 8 and 25, addFuel and fuel");
        RingKiln kiln = new RingKiln();
        Check.due(50, kiln.addFuel('w', 50));
        Check.due(99, kiln.addFuel('w', 49));
        Check.refused(STATE, () -> kiln.addFuel('w', 1));
        Check.due(99, kiln.fuel('w'));
        Check.due(1, kiln.addFuel('c', 1));
        Check.due(51, kiln.addFuel('c', 50));
        Check.refused(STATE, () -> kiln.addFuel('c', 49));
        Check.due(99, kiln.addFuel('c', 48));
        Check.due(7, kiln.addFuel('o', 7));
        Check.due(7, kiln.fuel('o'));
        for (char kind : "xW \0\u0177".toCharArray()) {
            Check.refused(ARGUMENT, () -> kiln.addFuel(kind, 1));
            Check.refused(ARGUMENT, () -> kiln.fuel(kind));
        }
        Check.refused(ARGUMENT, () -> kiln.addFuel('o', 0));
        Check.refused(ARGUMENT, () -> kiln.addFuel('o', 51));
        Check.refused(ARGUMENT, () -> kiln.addFuel('w', 51));
        Check.refused(ARGUMENT, () -> kiln.addFuel('o', Integer.MAX_VALUE));
        Check.due(7, kiln.fuel('o'));
    }

    private static void setPrice() {
        Check.topic("promises 9 and 26, setPrice and price");
        RingKiln kiln = new RingKiln();
        Check.due(1, kiln.setPrice('w', 20));
        Check.due(3, kiln.setPrice('c', 1));
        Check.due(5, kiln.setPrice('o', 2));
        Check.due(20, kiln.setPrice('w', 19));
        Check.due(19, kiln.price('w'));
        Check.due(1, kiln.price('c'));
        Check.due(2, kiln.price('o'));
        Check.refused(ARGUMENT, () -> kiln.setPrice('x', 1));
        Check.refused(ARGUMENT, () -> kiln.setPrice('w', 0));
        Check.refused(ARGUMENT, () -> kiln.setPrice('w', 21));
        Check.refused(ARGUMENT, () -> kiln.price('x'));
        Check.due(19, kiln.price('w'));
    }

    private static void feed() {
        Check.topic("promise 10, feed");
        RingKiln kiln = Kilns.fuelled(40, 20, 5);
        Check.refused(ARGUMENT, () -> kiln.feed(0));
        Check.refused(ARGUMENT, () -> kiln.feed(201));
        // 17 pieces of wood give 51 units for 17 coins; with coal 50 for 17 are 14 pieces and 1 of coal.
        Check.due(17, kiln.feed(50));
        Check.due(50, kiln.heat());
        Check.due(26, kiln.fuel('w'));
        Check.due(19, kiln.fuel('c'));
        Check.due(5, kiln.fuel('o'));
        Check.due(17, kiln.paidTotal());
        RingKiln poor = Kilns.fuelled(1, 1, 1);
        Check.refused(UNSUPPORTED, () -> poor.feed(24));
        Check.refused(UNSUPPORTED, () -> new RingKiln().feed(1));
        Check.due(9, poor.feed(23));
        Check.due(23, poor.heat());
        Check.due(0, poor.fuel('w') + poor.fuel('c') + poor.fuel('o'));
        RingKiln full = Kilns.fuelled(0, 0, 99);
        for (int heat = 204; heat <= 816; heat += 204) {
            Check.due(85, full.feed(200));
            Check.due(heat, full.heat());
        }
        Check.refused(STATE, () -> full.feed(181));
        Check.due(816, full.heat());
        Check.due(31, full.fuel('o'));
        Check.due(340, full.paidTotal());
        Check.due(75, full.feed(180));
        Check.due(996, full.heat());
        full.addFuel('w', 2);
        Check.refused(STATE, () -> full.feed(4));
        Check.due(1, full.feed(3));
        Check.due(999, full.heat());
        Check.refused(STATE, () -> full.feed(1));
        Check.refused(UNSUPPORTED, () -> Kilns.fuelled(3, 0, 0).feed(10));
        RingKiln even = Kilns.fuelled(0, 2, 82);
        even.setPrice('c', 20);
        for (int units : new int[] {192, 200, 200, 200, 180}) {
            even.feed(units);
        }
        Check.due(0, even.fuel('o'));
        Check.due(984, even.heat());
        even.feed(8);
        // 992 and 8 more are one too many.
        Check.refused(STATE, () -> even.feed(8));
        Check.due(992, even.heat());
    }

    private static void lowestCost() {
        Check.topic("promises 27 and 28, lowestCost in both ways");
        RingKiln kiln = Kilns.fuelled(40, 20, 5);
        Check.due(4, kiln.lowestCost(10));
        Check.due(4, kiln.lowestCostByTrying(10));
        Check.due(17, kiln.lowestCost(50));
        Check.due(17, kiln.lowestCostByTrying(50));
        for (int units : new int[] {0, -1, 201, Integer.MIN_VALUE, Integer.MAX_VALUE}) {
            Check.refused(ARGUMENT, () -> kiln.lowestCost(units));
            Check.refused(ARGUMENT, () -> kiln.lowestCostByTrying(units));
            Check.refused(ARGUMENT, () -> kiln.piecesInMixture('w', units));
        }
        RingKiln little = Kilns.fuelled(2, 3, 1);
        Check.due(2 + 9 + 5, little.lowestCost(42));
        Check.due(2 + 9 + 5, little.lowestCostByTrying(42));
        Check.refused(UNSUPPORTED, () -> little.lowestCost(43));
        Check.refused(UNSUPPORTED, () -> little.lowestCostByTrying(43));
        Check.refused(UNSUPPORTED, () -> new RingKiln().lowestCost(1));
        Check.refused(UNSUPPORTED, () -> new RingKiln().lowestCostByTrying(1));
        RingKiln woodOnly = Kilns.priced(Kilns.fuelled(67, 0, 0), 20, 1, 1);
        Check.due(67 * 20, woodOnly.lowestCost(200));
        Check.due(67 * 20, woodOnly.lowestCostByTrying(200));
    }

    private static void bestMixture() {
        Check.topic("promise 29, the best mixture");
        mixture(Kilns.fuelled(40, 20, 5), 50, 17, 14, 1, 0);
        mixture(Kilns.priced(Kilns.fuelled(40, 20, 5), 9, 3, 5), 50, 20, 0, 5, 1);
        // Of 3 pieces of wood or 1 of coal for 3 coins, coal has the least heat.
        mixture(Kilns.fuelled(9, 9, 9), 8, 3, 0, 1, 0);
        // Where a unit costs the same everywhere, the most wood comes before the most coal.
        mixture(Kilns.priced(Kilns.fuelled(9, 9, 9), 3, 8, 12), 24, 24, 8, 0, 0);
        mixture(Kilns.priced(Kilns.fuelled(5, 9, 9), 3, 8, 12), 24, 24, 4, 0, 1);
        mixture(Kilns.priced(Kilns.fuelled(3, 9, 9), 3, 8, 12), 24, 24, 0, 3, 0);
        mixture(Kilns.priced(Kilns.fuelled(3, 2, 9), 3, 8, 12), 24, 24, 0, 0, 2);
        // The lowest cost comes before the least heat.
        mixture(Kilns.priced(Kilns.fuelled(1, 0, 1), 6, 1, 5), 1, 5, 0, 0, 1);
        RingKiln kiln = Kilns.fuelled(1, 1, 1);
        mixture(kiln, 23, 9, 1, 1, 1);
        Check.refused(UNSUPPORTED, () -> kiln.piecesInMixture('w', 24));
        Check.refused(ARGUMENT, () -> kiln.piecesInMixture('x', 1));
        Check.refused(ARGUMENT, () -> kiln.piecesInMixture('x', 24));
        Check.refused(ARGUMENT, () -> kiln.piecesInMixture('w', 0));
        Check.due(1, kiln.fuel('w'));
        Check.due(0, kiln.heat());
    }

    private static void courses() {
        Check.topic("promise 30, courseCount");
        int[] due = {1, 1, 1, 2, 2, 3, 4, 5, 7, 9, 12, 16, 21, 28, 37, 49, 65};
        RingKiln kiln = new RingKiln();
        for (int width = 2; width <= 18; width++) {
            Check.due(due[width - 2], kiln.courseCount(width));
        }
        for (int width : new int[] {1, 19, 0, -1, Integer.MIN_VALUE, Integer.MAX_VALUE}) {
            Check.refused(ARGUMENT, () -> kiln.courseCount(width));
        }
    }

    private static void wallCount(RingKiln kiln, int width, int courses, long due) {
        Check.due(due, kiln.wallCount(width, courses));
        Check.due(due, kiln.wallCountByMemory(width, courses));
    }

    private static void wallCounts() {
        Check.topic("promises 31 and 32, wallCount in both ways");
        RingKiln kiln = new RingKiln();
        wallCount(kiln, 2, 8, 1);
        wallCount(kiln, 3, 8, 1);
        wallCount(kiln, 4, 1, 1);
        wallCount(kiln, 4, 2, 0);
        wallCount(kiln, 4, 8, 0);
        wallCount(kiln, 5, 8, 2);
        wallCount(kiln, 6, 8, 2);
        // Of 223, 232 and 322 only the first and the last can lie on each other.
        wallCount(kiln, 7, 1, 3);
        wallCount(kiln, 7, 2, 2);
        wallCount(kiln, 9, 3, 8);
        wallCount(kiln, 18, 1, 65);
        wallCount(kiln, 18, 8, 479942);
        wallCount(kiln, 9, 3, 8);
        int[][] wrong = {{1, 1}, {19, 1}, {2, 0}, {2, 9}, {-1, -1}};
        for (int[] pair : wrong) {
            Check.refused(ARGUMENT, () -> kiln.wallCount(pair[0], pair[1]));
            Check.refused(ARGUMENT, () -> kiln.wallCountByMemory(pair[0], pair[1]));
            Check.refused(ARGUMENT, () -> kiln.fewestBricks(pair[0], pair[1]));
            Check.refused(ARGUMENT, () -> kiln.buildWall(pair[0], pair[1]));
        }
    }

    private static void fewestBricks() {
        Check.topic("promise 33, fewestBricks");
        RingKiln kiln = new RingKiln();
        Check.due(8, kiln.fewestBricks(2, 8));
        Check.due(8, kiln.fewestBricks(3, 8));
        Check.due(2, kiln.fewestBricks(4, 1));
        Check.refused(MISSING, () -> kiln.fewestBricks(4, 2));
        Check.refused(MISSING, () -> kiln.fewestBricks(4, 8));
        Check.due(16, kiln.fewestBricks(5, 8));
        // 33 and 222 in turn.
        Check.due(2, kiln.fewestBricks(6, 1));
        Check.due(5, kiln.fewestBricks(6, 2));
        Check.due(7, kiln.fewestBricks(6, 3));
        Check.due(20, kiln.fewestBricks(6, 8));
        Check.due(3, kiln.fewestBricks(9, 1));
        Check.due(10, kiln.fewestBricks(9, 3));
        Check.due(52, kiln.fewestBricks(18, 8));
    }

    private static void buildWall() {
        Check.topic("promises 11, 34 and 35, buildWall, stock and walls");
        RingKiln kiln = Kilns.stocked();
        Check.due(60, kiln.stock());
        Check.refused(MISSING, () -> kiln.buildWall(4, 2));
        Check.due(0, kiln.walls());
        Check.due(52, kiln.buildWall(18, 8));
        Check.due(8, kiln.stock());
        Check.due(1, kiln.walls());
        Check.refused(STATE, () -> kiln.buildWall(9, 3));
        Check.due(8, kiln.stock());
        Check.due(1, kiln.walls());
        Check.due(8, kiln.buildWall(2, 8));
        Check.due(0, kiln.stock());
        Check.due(2, kiln.walls());
        Check.refused(STATE, () -> kiln.buildWall(2, 1));
        Check.refused(MISSING, () -> kiln.buildWall(4, 2));
        Check.refused(ARGUMENT, () -> kiln.buildWall(4, 9));
        Check.refused(STATE, () -> new RingKiln().buildWall(3, 1));
    }

    private static void totals() {
        Check.topic("promises 36 to 38, the totals");
        RingKiln kiln = Kilns.stocked();
        Check.due(60, kiln.brickTotal());
        Check.due(60, kiln.brickTotalByAccounts());
        Check.due(45, kiln.paidTotal());
        kiln.load(1, 7);
        kiln.load(5, 11);
        Check.due(78, kiln.brickTotal());
        Check.due(78, kiln.brickTotalByAccounts());
        kiln.buildWall(9, 3);
        Check.due(68, kiln.brickTotal());
        Check.due(68, kiln.brickTotalByAccounts());
        kiln.setPrice('o', 7);
        kiln.feed(1);
        Check.due(52, kiln.paidTotal());
        Check.due(0, new RingKiln().brickTotal());
        Check.due(0, new RingKiln().brickTotalByAccounts());
    }

    private static void consistency() {
        Check.topic("promise 41, isConsistent");
        Check.due(true, new RingKiln().isConsistent());
        RingKiln kiln = Kilns.stocked();
        Check.due(true, kiln.isConsistent());
        kiln.addFuel('w', 5);
        kiln.buildWall(9, 3);
        kiln.load(0, 5);
        kiln.light(0);
        kiln.passHours(2);
        Check.due(true, kiln.isConsistent());
        kiln.undo();
        Check.due(true, kiln.isConsistent());
        Check.due(true, Kilns.fuelled(99, 99, 99).isConsistent());
    }
}
