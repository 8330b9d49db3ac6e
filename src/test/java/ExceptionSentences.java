/** The sentences of the terms about exceptions: what a refused call leaves, and which exception comes first. */
final class ExceptionSentences extends Sentences {
    private ExceptionSentences() {
    }

    static void ask() {
        says(TERMS, "If a call throws an exception, nothing changes, except that run empties the text buffer and "
                + "stores the error position or the failed command.");
        whileTheFireIsLit();
        whileTheFireIsOut();
        onNewObjects();
        inQueries();
        inRun();
        says(TERMS, "If several conditions of a method apply, the exception that is listed first is thrown.");
        orderForChambers();
        orderForFuelsAndWalls();
        orderForProgramsAndQueries();
    }

    /**
     * Returns a kiln with the fire in 1, with 0 fired and hot, 2 empty and hot, 3 green and cool, little oil, no
     * stock, a saved state, 8 calls that can be undone, a line, an error position, a failed command and "pas" typed.
     */
    static RingKiln busy() {
        RingKiln kiln = Kilns.fuelled(0, 0, 36);
        kiln.setPrice('o', 4);
        kiln.feed(200);
        kiln.feed(200);
        kiln.load(0, 20);
        kiln.load(1, 15);
        kiln.save();
        kiln.light(0);
        kiln.passHours(6);
        kiln.load(3, 5);
        kiln.passHours(2);
        refused(ARGUMENT, () -> Kilns.run(kiln, "pass 2;load"));
        refused(UNSUPPORTED, () -> Kilns.run(kiln, "load 4 3;load 5 3;take 4"));
        kiln.writeFirstCourse(7);
        Kilns.type(kiln, "pas");
        due("f20:749 g15:560* e:100 g5:20", ring(kiln));
        kiln.writeFirstCourse(7);
        return kiln;
    }

    private static String ring(RingKiln kiln) {
        return Kilns.ring(kiln).replaceAll("( e:20)*$", "");
    }

    /** Returns a kiln with a full store of heat, all the wood there can be, one green chamber and no fire. */
    private static RingKiln resting() {
        RingKiln kiln = Kilns.withHeat(999);
        kiln.addFuel('w', 49);
        kiln.addFuel('w', 50);
        kiln.load(0, 1);
        kiln.save();
        kiln.setDraught(3);
        kiln.writeRing();
        Kilns.type(kiln, "pass ");
        return kiln;
    }

    private static void whileTheFireIsLit() {
        changesNothing(ExceptionSentences::busy, INDEX, kiln -> kiln.load(8, 1));
        changesNothing(ExceptionSentences::busy, ARGUMENT, kiln -> kiln.load(4, 61));
        changesNothing(ExceptionSentences::busy, STATE, kiln -> kiln.load(3, 5));
        changesNothing(ExceptionSentences::busy, UNSUPPORTED, kiln -> kiln.load(2, 5));
        changesNothing(ExceptionSentences::busy, INDEX, kiln -> kiln.unload(-1));
        changesNothing(ExceptionSentences::busy, STATE, kiln -> kiln.unload(3));
        changesNothing(ExceptionSentences::busy, UNSUPPORTED, kiln -> kiln.unload(0));
        changesNothing(ExceptionSentences::busy, INDEX, kiln -> kiln.light(8));
        changesNothing(ExceptionSentences::busy, STATE, kiln -> kiln.light(3));
        changesNothing(ExceptionSentences::busy, ARGUMENT, kiln -> kiln.setDraught(6));
        changesNothing(ExceptionSentences::busy, ARGUMENT, kiln -> kiln.passHours(49));
        changesNothing(ExceptionSentences::busy, ARGUMENT, kiln -> kiln.addFuel('x', 1));
        changesNothing(ExceptionSentences::busy, ARGUMENT, kiln -> kiln.addFuel('w', 51));
        changesNothing(ExceptionSentences::busy, ARGUMENT, kiln -> kiln.setPrice('x', 2));
        changesNothing(ExceptionSentences::busy, ARGUMENT, kiln -> kiln.setPrice('w', 21));
        changesNothing(ExceptionSentences::busy, ARGUMENT, kiln -> kiln.feed(201));
        changesNothing(ExceptionSentences::busy, UNSUPPORTED, kiln -> kiln.feed(25));
        changesNothing(ExceptionSentences::busy, ARGUMENT, kiln -> kiln.buildWall(1, 1));
        changesNothing(ExceptionSentences::busy, MISSING, kiln -> kiln.buildWall(4, 2));
        changesNothing(ExceptionSentences::busy, STATE, kiln -> kiln.buildWall(2, 1));
    }

    private static void whileTheFireIsOut() {
        changesNothing(ExceptionSentences::resting, UNSUPPORTED, kiln -> kiln.light(1));
        changesNothing(ExceptionSentences::resting, STATE, RingKiln::quench);
        changesNothing(ExceptionSentences::resting, STATE, kiln -> kiln.addFuel('w', 1));
        changesNothing(ExceptionSentences::resting, STATE, kiln -> kiln.feed(1));
        changesNothing(ExceptionSentences::resting, MISSING, RingKiln::fireChamber);
        changesNothing(ExceptionSentences::resting, MISSING, RingKiln::errorPosition);
        changesNothing(ExceptionSentences::resting, MISSING, RingKiln::failedCommand);
    }

    private static void onNewObjects() {
        changesNothing(RingKiln::new, STATE, RingKiln::undo);
        changesNothing(RingKiln::new, STATE, kiln -> {
            kiln.restore();
            return "nothing";
        });
        changesNothing(RingKiln::new, ArithmeticException.class, RingKiln::firedShare);
        changesNothing(RingKiln::new, MISSING, RingKiln::errorPosition);
        changesNothing(RingKiln::new, INDEX, kiln -> kiln.outputAt(0));
        changesNothing(ExceptionSentences::typedFull, STATE, kiln -> kiln.append('1'));
    }

    private static RingKiln typedFull() {
        RingKiln kiln = new RingKiln();
        Kilns.type(kiln, "pass 001;".repeat(6) + "pass 1");
        return kiln;
    }

    private static void inQueries() {
        changesNothing(ExceptionSentences::busy, INDEX, kiln -> kiln.state(8));
        changesNothing(ExceptionSentences::busy, INDEX, kiln -> kiln.bricks(8));
        changesNothing(ExceptionSentences::busy, INDEX, kiln -> kiln.temperature(8));
        changesNothing(ExceptionSentences::busy, MISSING, kiln -> kiln.chamberAtRank(8));
        changesNothing(ExceptionSentences::busy, ARGUMENT, kiln -> kiln.chambersIn('h'));
        changesNothing(ExceptionSentences::busy, INDEX, kiln -> kiln.hoursUntilCool(8));
        changesNothing(ChamberSentences::slow, MISSING, kiln -> kiln.hoursUntilCool(7));
        changesNothing(ExceptionSentences::busy, ARGUMENT, kiln -> kiln.firedIn(101));
        changesNothing(ExceptionSentences::busy, ARGUMENT, kiln -> kiln.fuel('x'));
        changesNothing(ExceptionSentences::busy, ARGUMENT, kiln -> kiln.price('x'));
        changesNothing(ExceptionSentences::busy, ARGUMENT, kiln -> kiln.lowestCost(201));
        changesNothing(ExceptionSentences::busy, UNSUPPORTED, kiln -> kiln.lowestCost(25));
        changesNothing(ExceptionSentences::busy, ARGUMENT, kiln -> kiln.lowestCostByTrying(0));
        changesNothing(ExceptionSentences::busy, UNSUPPORTED, kiln -> kiln.lowestCostByTrying(25));
        changesNothing(ExceptionSentences::busy, ARGUMENT, kiln -> kiln.piecesInMixture('x', 1));
        changesNothing(ExceptionSentences::busy, UNSUPPORTED, kiln -> kiln.piecesInMixture('o', 25));
        changesNothing(ExceptionSentences::busy, ARGUMENT, kiln -> kiln.courseCount(19));
        changesNothing(ExceptionSentences::busy, ARGUMENT, kiln -> kiln.wallCount(19, 1));
        changesNothing(ExceptionSentences::busy, ARGUMENT, kiln -> kiln.wallCountByMemory(2, 9));
        changesNothing(ExceptionSentences::busy, ARGUMENT, kiln -> kiln.fewestBricks(2, 9));
        changesNothing(ExceptionSentences::busy, MISSING, kiln -> kiln.fewestBricks(4, 2));
        changesNothing(ExceptionSentences::busy, ARGUMENT, kiln -> kiln.writeFirstCourse(19));
        changesNothing(ExceptionSentences::busy, INDEX, kiln -> kiln.outputAt(3));
    }

    private static void inRun() {
        // Each row is the rest of a text that begins with "pas", and the two stored numbers
        // after it; 11 is the error position that was stored before.
        String[][] rows = {{"s 1;fuel w 1;pass", "20 2"}, {"s 1;out;draught 4;price w 2;take 0", "11 4"}, {"", "3 2"},
            {"s 49", "11 0"}};
        for (String[] row : rows) {
            RingKiln called = busy();
            RingKiln left = busy();
            Kilns.type(called, row[0]);
            boolean isProgram = row[1].startsWith("11");
            refused(isProgram ? UNSUPPORTED : ARGUMENT, called::run);
            due(Kilns.stateOf(left), Kilns.stateOf(called));
            due(Kilns.line(left), Kilns.line(called));
            due(row[1], called.errorPosition() + " " + called.failedCommand());
            due(1, called.append('o'));
            for (int i = 0; i < 9; i++) {
                due(Check.outcome(left::undo), Check.outcome(called::undo));
                due(Kilns.briefly(left), Kilns.briefly(called));
            }
            left.restore();
            called.restore();
            due(Kilns.stateOf(left), Kilns.stateOf(called));
        }
    }

    private static void orderForChambers() {
        RingKiln kiln = busy();
        // There is no such chamber, before: the number is out of range.
        refused(INDEX, () -> kiln.load(8, 0));
        refused(INDEX, () -> kiln.load(-1, 61));
        // The number is out of range, before: not empty; not cool.
        refused(ARGUMENT, () -> kiln.load(3, 0));
        refused(ARGUMENT, () -> kiln.load(2, 61));
        refused(ARGUMENT, () -> kiln.load(0, 61));
        // Not empty, before: not cool.
        refused(STATE, () -> kiln.load(0, 1));
        refused(STATE, () -> kiln.load(1, 1));
        // Not fired, before: not cool.
        refused(STATE, () -> kiln.unload(1));
        refused(STATE, () -> kiln.unload(2));
        // There is no such chamber, before: the fire is lit; and this before: not green.
        refused(INDEX, () -> kiln.light(8));
        refused(STATE, () -> kiln.light(0));
        refused(STATE, () -> kiln.light(4));
        refused(STATE, () -> kiln.light(1));
    }

    private static void orderForFuelsAndWalls() {
        RingKiln kiln = resting();
        refused(ARGUMENT, () -> kiln.addFuel('w', 51));
        refused(ARGUMENT, () -> kiln.addFuel('w', 0));
        refused(ARGUMENT, () -> kiln.addFuel('x', 99));
        refused(ARGUMENT, () -> kiln.addFuel('x', 0));
        refused(ARGUMENT, () -> kiln.setPrice('x', 0));
        // Out of range, before: no mixture; and this before: the store would have too much.
        refused(ARGUMENT, () -> kiln.feed(201));
        refused(ARGUMENT, () -> kiln.feed(0));
        refused(ARGUMENT, () -> new RingKiln().feed(0));
        refused(ARGUMENT, () -> new RingKiln().feed(201));
        RingKiln empty = Kilns.withHeat(999);
        refused(UNSUPPORTED, () -> empty.feed(1));
        refused(UNSUPPORTED, () -> empty.feed(200));
        // Out of range, before: no such wall; and this before: too few bricks.
        refused(ARGUMENT, () -> kiln.buildWall(4, 9));
        refused(ARGUMENT, () -> kiln.buildWall(19, 2));
        refused(ARGUMENT, () -> kiln.buildWall(2, 0));
        refused(MISSING, () -> kiln.buildWall(4, 2));
        refused(STATE, () -> kiln.buildWall(4, 1));
    }

    private static void orderForProgramsAndQueries() {
        RingKiln kiln = new RingKiln();
        refused(ARGUMENT, () -> kiln.lowestCost(0));
        refused(ARGUMENT, () -> kiln.lowestCost(201));
        refused(ARGUMENT, () -> kiln.lowestCostByTrying(0));
        refused(ARGUMENT, () -> kiln.lowestCostByTrying(201));
        refused(ARGUMENT, () -> kiln.piecesInMixture('x', 1));
        refused(ARGUMENT, () -> kiln.piecesInMixture('w', 0));
        refused(ARGUMENT, () -> kiln.piecesInMixture('w', 201));
        refused(ARGUMENT, () -> kiln.fewestBricks(4, 9));
        refused(INDEX, () -> ChamberSentences.slow().hoursUntilCool(8));
        // The first command would fail, but the text is not a program.
        refused(ARGUMENT, () -> Kilns.run(kiln, "out;take 9;"));
        due(11, kiln.errorPosition());
        refused(MISSING, kiln::failedCommand);
    }
}
