/** The sentences of the promises 8 to 11 and 25 to 41: the fuels, the walls and the totals. */
final class FuelAndWallSentences extends Sentences {
    private static final String KIND = "`kind`: the fuel, 'w', 'c' or 'o'";
    private static final String UNITS = "`units`: the number of units, 1 to 200";
    private static final String WIDTH = "`width`: the width, 2 to 18";
    private static final String COURSES = "`courses`: the number of courses, 1 to 8";
    private static final String NO_FUEL = "Throws `IllegalArgumentException` if there is no such fuel";
    private static final String BAD_UNITS = "Throws `IllegalArgumentException` if the number of units is out of range";
    private static final String NO_MIXTURE =
            "Throws `UnsupportedOperationException` if there is no mixture with at least this heat";
    private static final String BAD_WIDTH = "Throws `IllegalArgumentException` if the width is out of range";
    private static final String BAD_WALL =
            "Throws `IllegalArgumentException` if the width or the number of courses is out of range";
    private static final String NO_WALL = "Throws `NoSuchElementException` if there is no such wall";

    private FuelAndWallSentences() {
    }

    static void ask() {
        addFuel();
        setPrice();
        feed();
        buildWall();
        fuelQueries();
        lowestCost();
        lowestCostByTrying();
        piecesInMixture();
        courseCount();
        wallCount();
        wallCountByMemory();
        fewestBricks();
        stockAndWalls();
        brickTotals();
        paidTotal();
        meanTemperature();
        firedShare();
        isConsistent();
    }

    private static void addFuel() {
        RingKiln kiln = new RingKiln();
        says(8, "Adds pieces of a fuel.");
        kiln.addFuel('c', 7);
        due("0 7 0", kiln.fuel('w') + " " + kiln.fuel('c') + " " + kiln.fuel('o'));
        says(8, KIND);
        kiln.addFuel('w', 3);
        kiln.addFuel('o', 5);
        due("3 7 5", kiln.fuel('w') + " " + kiln.fuel('c') + " " + kiln.fuel('o'));
        says(8, "`pieces`: the number of pieces, 1 to 50");
        due("1 51", new RingKiln().addFuel('o', 1) + " " + Kilns.fuelled(0, 1, 0).addFuel('c', 50));
        says(8, "Returns the number of pieces of this fuel after the call.");
        due("57 53 6", kiln.addFuel('c', 50) + " " + kiln.addFuel('w', 50) + " " + kiln.addFuel('o', 1));
        says(8, "Throws `IllegalArgumentException` if there is no such fuel, or the number of pieces is out of "
                + "range");
        refusedKinds(kind -> kiln.addFuel(kind, 1));
        refusedKinds(kind -> kiln.addFuel(kind, 0));
        refusedOutside(1, 50, ARGUMENT, pieces -> kiln.addFuel('o', pieces));
        due("53 57 6", kiln.fuel('w') + " " + kiln.fuel('c') + " " + kiln.fuel('o'));
        says(8, "Throws `IllegalStateException` if there would be more than 99 pieces");
        refused(STATE, () -> kiln.addFuel('c', 43));
        due(99, kiln.addFuel('c', 42));
        refused(STATE, () -> kiln.addFuel('c', 1));
        refused(STATE, () -> kiln.addFuel('w', 50));
        refused(STATE, () -> kiln.addFuel('w', 47));
        due(99, kiln.addFuel('w', 46));
        due("99 99", kiln.fuel('w') + " " + kiln.fuel('c'));
    }

    private static void setPrice() {
        RingKiln kiln = new RingKiln();
        says(9, "Sets the price of a fuel.");
        kiln.setPrice('c', 9);
        due("1 9 5", kiln.price('w') + " " + kiln.price('c') + " " + kiln.price('o'));
        says(9, KIND);
        kiln.setPrice('w', 7);
        kiln.setPrice('o', 8);
        due("7 9 8", kiln.price('w') + " " + kiln.price('c') + " " + kiln.price('o'));
        says(9, "`price`: the new price, 1 to 20");
        for (char kind : "wco".toCharArray()) {
            kiln.setPrice(kind, 1);
            due(1, kiln.price(kind));
            kiln.setPrice(kind, 20);
            due(20, kiln.price(kind));
        }
        says(9, "Returns the previous price.");
        due("20 2 2", kiln.setPrice('w', 2) + " " + kiln.setPrice('w', 2) + " " + kiln.setPrice('w', 3));
        due("3 5", new RingKiln().setPrice('c', 1) + " " + new RingKiln().setPrice('o', 1));
        says(9, "Throws `IllegalArgumentException` if there is no such fuel, or the price is out of range");
        refusedKinds(kind -> kiln.setPrice(kind, 1));
        refusedOutside(1, 20, ARGUMENT, price -> kiln.setPrice('o', price));
        due("3 20 20", kiln.price('w') + " " + kiln.price('c') + " " + kiln.price('o'));
    }

    private static void feed() {
        says(10, "Burns the best mixture for some units of heat.");
        RingKiln kiln = Kilns.fuelled(40, 20, 5);
        // 14 pieces of wood and one of coal have 50 units for 17 coins; 17 pieces of wood have one too many.
        kiln.feed(50);
        due(17, kiln.paidTotal());
        says(10, "Its pieces are removed, and its heat comes into the store.");
        due("26 19 5 50", kiln.fuel('w') + " " + kiln.fuel('c') + " " + kiln.fuel('o') + " " + kiln.heat());
        RingKiln more = Kilns.fuelled(0, 0, 2);
        more.feed(13);
        // All of the heat comes into the store, also what is more than was asked for.
        due("0 24", more.fuel('o') + " " + more.heat());
        says(10, UNITS);
        RingKiln ends = Kilns.fuelled(0, 0, 99);
        due("5 12", ends.feed(1) + " " + ends.heat());
        due("85 216", ends.feed(200) + " " + ends.heat());
        says(10, "Returns the cost of the mixture.");
        ends.setPrice('o', 20);
        due(20, ends.feed(12));
        due(40, ends.feed(13));
        says(10, BAD_UNITS);
        refusedOutside(1, 200, ARGUMENT, ends::feed);
        says(10, NO_MIXTURE);
        RingKiln little = Kilns.fuelled(1, 1, 1);
        refused(UNSUPPORTED, () -> little.feed(24));
        due("0 1 1 1", little.heat() + " " + little.fuel('w') + " " + little.fuel('c') + " " + little.fuel('o'));
        due(9, little.feed(23));
        refused(UNSUPPORTED, () -> little.feed(1));
        says(10, "Throws `IllegalStateException` if the store would have more than 999 units");
        RingKiln full = Kilns.withHeat(996);
        full.addFuel('c', 1);
        refused(STATE, () -> full.feed(1));
        full.addFuel('w', 2);
        refused(STATE, () -> full.feed(4));
        due("996 2 1", full.heat() + " " + full.fuel('w') + " " + full.fuel('c'));
        due(1, full.feed(3));
        due(999, full.heat());
        refused(STATE, () -> full.feed(1));
        RingKiln over = Kilns.withHeat(997);
        over.addFuel('w', 1);
        // 997 and 3 are 1000, although no more than 1 unit is asked for.
        refused(STATE, () -> over.feed(1));
    }

    private static void buildWall() {
        says(11, "Builds a wall from as few bricks of the stock as possible.");
        RingKiln kiln = Kilns.stocked();
        kiln.buildWall(6, 2);
        due("55 1", kiln.stock() + " " + kiln.walls());
        says(11, WIDTH);
        due("1 6", kiln.buildWall(2, 1) + " " + kiln.buildWall(18, 1));
        says(11, COURSES);
        due("1 8", kiln.buildWall(3, 1) + " " + kiln.buildWall(3, 8));
        says(11, "Returns the number of bricks that are used.");
        due(39, kiln.stock());
        due(7, kiln.buildWall(6, 3));
        due(32, kiln.stock());
        says(11, BAD_WALL);
        refusedOutside(2, 18, ARGUMENT, width -> kiln.buildWall(width, 1));
        refusedOutside(1, 8, ARGUMENT, courses -> kiln.buildWall(2, courses));
        says(11, NO_WALL);
        for (int courses = 2; courses <= 8; courses++) {
            int height = courses;
            refused(MISSING, () -> kiln.buildWall(4, height));
        }
        due("32 6", kiln.stock() + " " + kiln.walls());
        due(2, kiln.buildWall(4, 1));
        says(11, "Throws `IllegalStateException` if there are too few bricks in the stock");
        due(30, kiln.stock());
        refused(STATE, () -> kiln.buildWall(18, 8));
        for (int walls = 0; walls < 3; walls++) kiln.buildWall(2, 8);
        due(6, kiln.stock());
        refused(STATE, () -> kiln.buildWall(6, 3));
        due("6 10", kiln.stock() + " " + kiln.walls());
        // As many as there are is enough.
        due(6, kiln.buildWall(3, 6));
        due("0 11", kiln.stock() + " " + kiln.walls());
        refused(STATE, () -> kiln.buildWall(2, 1));
    }

    private static void fuelQueries() {
        RingKiln kiln = Kilns.fuelled(1, 99, 0);
        says(25, "Returns the number of pieces of a fuel.");
        due(99, kiln.fuel('c'));
        says(25, KIND);
        due("1 99 0", kiln.fuel('w') + " " + kiln.fuel('c') + " " + kiln.fuel('o'));
        says(25, "Returns the number of pieces.");
        kiln.feed(200);
        due("1 74", kiln.fuel('w') + " " + kiln.fuel('c'));
        says(25, NO_FUEL);
        refusedKinds(kiln::fuel);
        says(26, "Returns the price of a fuel.");
        due(3, kiln.price('c'));
        says(26, KIND);
        due("1 3 5", kiln.price('w') + " " + kiln.price('c') + " " + kiln.price('o'));
        says(26, "Returns the price of a piece.");
        kiln.setPrice('o', 20);
        due("1 3 20", kiln.price('w') + " " + kiln.price('c') + " " + kiln.price('o'));
        says(26, NO_FUEL);
        refusedKinds(kiln::price);
    }

    private static void lowestCost() {
        says(27, "Returns the cost of the best mixture, found by a table of the lowest costs for all amounts of "
                + "heat, fuel by fuel.");
        RingKiln kiln = Kilns.fuelled(40, 20, 5);
        due("4 17", kiln.lowestCost(10) + " " + kiln.lowestCost(50));
        due(0, kiln.heat() + kiln.paidTotal());
        says(27, UNITS);
        due("1 70", kiln.lowestCost(1) + " " + kiln.lowestCost(200));
        says(27, "Returns the cost.");
        due(67 * 20, Kilns.priced(Kilns.fuelled(67, 0, 0), 20, 1, 1).lowestCost(200));
        due(17, Kilns.priced(Kilns.fuelled(99, 99, 17), 20, 20, 1).lowestCost(200));
        // With 16 pieces of oil, 8 units are missing.
        due(16 + 20, Kilns.priced(Kilns.fuelled(99, 99, 16), 20, 20, 1).lowestCost(200));
        says(27, BAD_UNITS);
        refusedOutside(1, 200, ARGUMENT, kiln::lowestCost);
        says(27, NO_MIXTURE);
        refused(UNSUPPORTED, () -> new RingKiln().lowestCost(1));
        RingKiln little = Kilns.fuelled(66, 0, 0);
        due(66, little.lowestCost(198));
        refused(UNSUPPORTED, () -> little.lowestCost(199));
        refused(UNSUPPORTED, () -> little.lowestCost(200));
    }

    private static void lowestCostByTrying() {
        says(28, "Returns the same cost, found by trying numbers of pieces of two fuels and adding as many pieces "
                + "of the third one as are missing.");
        int[][] rows = {{40, 20, 5, 1, 3, 5}, {3, 9, 2, 20, 1, 13}, {0, 25, 17, 2, 9, 4}, {50, 0, 4, 1, 1, 20}};
        for (int[] row : rows) {
            RingKiln kiln = Kilns.priced(Kilns.fuelled(row[0], row[1], row[2]), row[3], row[4], row[5]);
            for (int units = 1; units <= 200; units++) {
                int asked = units;
                due(Check.outcome(() -> kiln.lowestCost(asked)), Check.outcome(() -> kiln.lowestCostByTrying(asked)));
            }
        }
        says(28, UNITS);
        RingKiln kiln = Kilns.fuelled(40, 20, 5);
        due("1 70", kiln.lowestCostByTrying(1) + " " + kiln.lowestCostByTrying(200));
        says(28, "Returns the cost.");
        due(67 * 20, Kilns.priced(Kilns.fuelled(67, 0, 0), 20, 1, 1).lowestCostByTrying(200));
        due(16 + 20, Kilns.priced(Kilns.fuelled(99, 99, 16), 20, 20, 1).lowestCostByTrying(200));
        says(28, BAD_UNITS);
        refusedOutside(1, 200, ARGUMENT, kiln::lowestCostByTrying);
        says(28, NO_MIXTURE);
        refused(UNSUPPORTED, () -> new RingKiln().lowestCostByTrying(1));
        RingKiln little = Kilns.fuelled(66, 0, 0);
        due(66, little.lowestCostByTrying(198));
        refused(UNSUPPORTED, () -> little.lowestCostByTrying(199));
    }

    private static void piecesInMixture() {
        says(29, "Returns the number of pieces of a fuel in the best mixture.");
        RingKiln kiln = Kilns.fuelled(40, 20, 5);
        due(14, kiln.piecesInMixture('w', 50));
        says(29, KIND);
        due("14 1 0", kiln.piecesInMixture('w', 50) + " " + kiln.piecesInMixture('c', 50) + " "
                + kiln.piecesInMixture('o', 50));
        says(29, UNITS);
        TermsSentences.mixture(kiln, 1, 1, 1, 0, 0);
        TermsSentences.mixture(kiln, 200, 70, 40, 10, 0);
        says(29, "Returns the number of pieces.");
        due(40, kiln.piecesInMixture('w', 200));
        due("40 20 5", kiln.fuel('w') + " " + kiln.fuel('c') + " " + kiln.fuel('o'));
        says(29, "Throws `IllegalArgumentException` if there is no such fuel, or the number of units is out of "
                + "range");
        refusedKinds(kind -> kiln.piecesInMixture(kind, 50));
        refusedOutside(1, 200, ARGUMENT, units -> kiln.piecesInMixture('c', units));
        says(29, NO_MIXTURE);
        RingKiln little = Kilns.fuelled(1, 1, 1);
        due("1 1 1", little.piecesInMixture('w', 23) + " " + little.piecesInMixture('c', 23) + " "
                + little.piecesInMixture('o', 23));
        for (char kind : "wco".toCharArray()) refused(UNSUPPORTED, () -> little.piecesInMixture(kind, 24));
    }

    private static void courseCount() {
        RingKiln kiln = new RingKiln();
        says(30, "Returns the number of different courses with a width.");
        // 23 and 32 are different, and so are 223, 232 and 322.
        due("2 3", kiln.courseCount(5) + " " + kiln.courseCount(7));
        says(30, WIDTH);
        due("1 65", kiln.courseCount(2) + " " + kiln.courseCount(18));
        says(30, "Returns the number of courses.");
        // The last brick is one of 2 or of 3: each number is the sum of those for the width less 2 and less 3.
        for (int width = 5; width <= 18; width++) {
            int sum = kiln.courseCount(width - 2) + (width == 5 ? 1 : kiln.courseCount(width - 3));
            due(sum, kiln.courseCount(width));
        }
        says(30, BAD_WIDTH);
        refusedOutside(2, 18, ARGUMENT, kiln::courseCount);
    }

    private static void wallCount() {
        RingKiln kiln = new RingKiln();
        says(31, "Returns the number of different walls, found course by course from the bottom to the top with a "
                + "table of the numbers for each course.");
        due("2 8", kiln.wallCount(5, 2) + " " + kiln.wallCount(9, 3));
        says(31, WIDTH);
        due("1 1", kiln.wallCount(2, 1) + " " + kiln.wallCount(2, 8));
        due("65 479942", kiln.wallCount(18, 1) + " " + kiln.wallCount(18, 8));
        says(31, COURSES);
        for (int width = 2; width <= 18; width++) due(kiln.courseCount(width), kiln.wallCount(width, 1));
        due(2, kiln.wallCount(6, 8));
        says(31, "Returns the number of walls.");
        // 0 where there is no such wall.
        due("0 0 1", kiln.wallCount(4, 2) + " " + kiln.wallCount(4, 8) + " " + kiln.wallCount(4, 1));
        says(31, BAD_WALL);
        refusedOutside(2, 18, ARGUMENT, width -> kiln.wallCount(width, 3));
        refusedOutside(1, 8, ARGUMENT, courses -> kiln.wallCount(9, courses));
    }

    private static void wallCountByMemory() {
        RingKiln kiln = new RingKiln();
        says(32, "Returns the same number, found recursively from a course to those that can be above it, with a "
                + "memory of the numbers that were found.");
        for (int width = 2; width <= 18; width++) {
            for (int courses = 1; courses <= 8; courses++) {
                due(kiln.wallCount(width, courses), kiln.wallCountByMemory(width, courses));
            }
        }
        // What was found for one width is not taken for another one.
        due("8 2 8", kiln.wallCountByMemory(9, 3) + " " + kiln.wallCountByMemory(6, 3) + " "
                + kiln.wallCountByMemory(9, 3));
        says(32, WIDTH);
        due("1 479942", kiln.wallCountByMemory(2, 8) + " " + kiln.wallCountByMemory(18, 8));
        says(32, COURSES);
        due("65 2", kiln.wallCountByMemory(18, 1) + " " + kiln.wallCountByMemory(6, 8));
        says(32, "Returns the number of walls.");
        due("0 1", kiln.wallCountByMemory(4, 2) + " " + kiln.wallCountByMemory(4, 1));
        says(32, BAD_WALL);
        refusedOutside(2, 18, ARGUMENT, width -> kiln.wallCountByMemory(width, 3));
        refusedOutside(1, 8, ARGUMENT, courses -> kiln.wallCountByMemory(9, courses));
    }

    private static void fewestBricks() {
        RingKiln kiln = new RingKiln();
        says(33, "Returns the least number of bricks of a wall.");
        // 33 and 222 in turn, 33 twice where it can be.
        due("2 5 7", kiln.fewestBricks(6, 1) + " " + kiln.fewestBricks(6, 2) + " " + kiln.fewestBricks(6, 3));
        says(33, WIDTH);
        due("1 6", kiln.fewestBricks(2, 1) + " " + kiln.fewestBricks(18, 1));
        says(33, COURSES);
        due("8 8 52", kiln.fewestBricks(2, 8) + " " + kiln.fewestBricks(3, 8) + " " + kiln.fewestBricks(18, 8));
        says(33, "Returns the number of bricks.");
        due("10 16", kiln.fewestBricks(9, 3) + " " + kiln.fewestBricks(5, 8));
        due(0, kiln.walls());
        says(33, BAD_WALL);
        refusedOutside(2, 18, ARGUMENT, width -> kiln.fewestBricks(width, 3));
        refusedOutside(1, 8, ARGUMENT, courses -> kiln.fewestBricks(9, courses));
        says(33, NO_WALL);
        due(2, kiln.fewestBricks(4, 1));
        for (int width = 2; width <= 18; width++) {
            for (int courses = 1; courses <= 8; courses++) {
                int height = courses;
                int wide = width;
                if (kiln.wallCount(width, courses) == 0) refused(MISSING, () -> kiln.fewestBricks(wide, height));
                else due(true, kiln.fewestBricks(width, courses) >= courses);
            }
        }
    }

    private static void stockAndWalls() {
        RingKiln kiln = Kilns.stocked();
        says(34, "Returns the number of bricks in the stock.");
        due("0 60", new RingKiln().stock() + " " + kiln.stock());
        says(34, "Returns the number of bricks.");
        kiln.load(0, 7);
        due(60, kiln.stock());
        kiln.buildWall(3, 2);
        due(58, kiln.stock());
        says(35, "Returns the number of walls that have been built so far.");
        due("0 1", new RingKiln().walls() + " " + kiln.walls());
        says(35, "Returns the number of walls.");
        kiln.buildWall(3, 8);
        refused(STATE, () -> kiln.buildWall(18, 8));
        due(2, kiln.walls());
        kiln.undo();
        due(1, kiln.walls());
    }

    private static void brickTotals() {
        RingKiln kiln = Kilns.stocked();
        says(36, "Returns the number of bricks in the chambers and in the stock, added chamber by chamber.");
        kiln.load(0, 7);
        kiln.load(7, 9);
        due(76, kiln.brickTotal());
        says(36, "Returns the number of bricks.");
        due(0, new RingKiln().brickTotal());
        kiln.buildWall(9, 3);
        due(66, kiln.brickTotal());
        says(37, "Returns the same number, computed from the accounts: the bricks that were loaded minus those "
                + "that were used for walls.");
        due(66, kiln.brickTotalByAccounts());
        kiln.undo();
        due("76 76", kiln.brickTotal() + " " + kiln.brickTotalByAccounts());
        says(37, "Returns the number of bricks.");
        due(0, new RingKiln().brickTotalByAccounts());
        refused(UNSUPPORTED, () -> Kilns.run(kiln, "load 1 5;wall 2 2;load 1 5"));
        due("76 76", kiln.brickTotal() + " " + kiln.brickTotalByAccounts());
    }

    private static void paidTotal() {
        says(38, "Returns the sum of the costs of all mixtures that have been burnt so far.");
        RingKiln kiln = Kilns.fuelled(99, 0, 99);
        due(0, kiln.paidTotal());
        kiln.feed(3);
        kiln.setPrice('w', 20);
        kiln.feed(24);
        due(1 + 10, kiln.paidTotal());
        says(38, "Returns the sum.");
        kiln.lowestCost(200);
        refused(ARGUMENT, () -> kiln.feed(0));
        due(11, kiln.paidTotal());
        kiln.undo();
        due(1, kiln.paidTotal());
    }

    private static void meanTemperature() {
        says(39, "Returns the mean temperature of the chambers.");
        RingKiln kiln = Kilns.heated();
        due(20.0, kiln.meanTemperature());
        says(39, "Returns the sum of the temperatures divided by 8, both converted to double.");
        kiln.load(0, 1);
        kiln.light(0);
        kiln.passHours(1);
        // 170, 60 and 6 times 20.
        due(43.75, kiln.meanTemperature());
        kiln.quench();
        kiln.passHours(2);
        // 170, 155, 142 and 60, 56, 53.
        due(315.0 / 8.0, kiln.meanTemperature());
    }

    private static void firedShare() {
        says(40, "Returns the share of the loaded bricks that have become fired.");
        RingKiln kiln = Kilns.heated();
        kiln.load(0, 10);
        due(0.0f, kiln.firedShare());
        kiln.light(0);
        kiln.passHours(6);
        due(1.0f, kiln.firedShare());
        says(40, "Returns the number of bricks that have become fired so far divided by the number of bricks that "
                + "were loaded so far, both converted to float.");
        kiln.load(2, 20);
        due(0.33333334f, kiln.firedShare());
        kiln.setDraught(5);
        kiln.passHours(48);
        kiln.unload(0);
        kiln.buildWall(2, 1);
        kiln.load(0, 40);
        // Also those count that have left their chamber.
        due(0.14285715f, kiln.firedShare());
        says(40, "Throws `ArithmeticException` if no bricks were loaded");
        refused(ArithmeticException.class, () -> new RingKiln().firedShare());
        RingKiln undone = new RingKiln();
        undone.load(0, 1);
        due(0.0f, undone.firedShare());
        undone.undo();
        refused(ArithmeticException.class, undone::firedShare);
        refused(UNSUPPORTED, () -> Kilns.run(undone, "load 0 5;out"));
        refused(ArithmeticException.class, undone::firedShare);
    }

    private static void isConsistent() {
        says(41, "Checks the invariants: both ways of counting bricks agree, both ways of finding the lowest cost "
                + "agree for 10 and 50 units if there are mixtures, both ways of counting walls agree for the "
                + "width 9 and 3 courses, and the heat of all mixtures is the store plus what was burnt by the "
                + "fire.");
        due(true, new RingKiln().isConsistent());
        // Mixtures for neither, for 10 units alone, and for both.
        due(true, Kilns.fuelled(3, 0, 0).isConsistent());
        due(true, Kilns.fuelled(0, 0, 1).isConsistent());
        due(true, Kilns.fuelled(0, 0, 4).isConsistent());
        // 49 units are just too few for 50, and 50 are just enough.
        due(true, Kilns.fuelled(11, 2, 0).isConsistent());
        due(true, Kilns.fuelled(14, 1, 0).isConsistent());
        due(true, Kilns.fuelled(99, 99, 99).isConsistent());
        says(41, "Returns true if all invariants hold.");
        RingKiln kiln = Kilns.stocked();
        due(true, kiln.isConsistent());
        kiln.buildWall(9, 3);
        kiln.load(0, 5);
        kiln.light(0);
        kiln.passHours(48);
        due(true, kiln.isConsistent());
        kiln.undo();
        due(true, kiln.isConsistent());
        refused(UNSUPPORTED, () -> Kilns.run(kiln, "pass 2;load 1 5;wall 2 2;feed 200"));
        due(true, kiln.isConsistent());
        kiln.save();
        kiln.restore();
        due(true, kiln.isConsistent());
    }
}
