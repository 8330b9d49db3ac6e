/** The sentences of the promises 1 to 7 and 12 to 24: the chambers, the fire and the queries about them. */
final class ChamberSentences extends Sentences {
    private static final String CHAMBER = "`chamber`: the index of the chamber";
    private static final String NO_CHAMBER = "Throws `IndexOutOfBoundsException` if there is no such chamber";

    private ChamberSentences() {
    }

    static void ask() {
        newObject();
        load();
        unload();
        light();
        quench();
        setDraught();
        passHours();
        fireQueries();
        chamberQueries();
        ranks();
        chambersIn();
        hoursUntilOut();
        hoursUntilCool();
        firedIn();
    }

    /** Returns a kiln in which chamber 7, at 770 degrees, is reached by the fire in 1 and is hot for 100 hours. */
    static RingKiln slow() {
        RingKiln kiln = Kilns.withHeat(999);
        kiln.setDraught(0);
        for (int chamber = 0; chamber < 8; chamber++) kiln.load(chamber, 60 - chamber);
        kiln.light(7);
        kiln.passHours(5);
        kiln.quench();
        kiln.light(1);
        return kiln;
    }

    /** Returns a kiln with 20 and 15 fired bricks in the chambers 0 and 7, both hot, and no fire. */
    private static RingKiln fired() {
        RingKiln kiln = Kilns.withHeat(999);
        kiln.load(7, 15);
        kiln.load(0, 20);
        kiln.light(7);
        kiln.passHours(11);
        return kiln;
    }

    private static void newObject() {
        says(1, "Creates a kiln with empty chambers, without fuel, at time 0.");
        RingKiln kiln = new RingKiln();
        due(8, kiln.chambersIn('e'));
        due("0 0 0 0", kiln.fuel('w') + " " + kiln.fuel('c') + " " + kiln.fuel('o') + " " + kiln.time());
        due("0 0 0 0 0 0", kiln.heat() + " " + kiln.stock() + " " + kiln.walls() + " " + kiln.brickTotal() + " "
                + kiln.brickTotalByAccounts() + " " + kiln.paidTotal());
        refused(STATE, kiln::undo);
        refused(STATE, () -> {
            kiln.restore();
            return "nothing";
        });
        // Two objects have nothing in common.
        RingKiln other = new RingKiln();
        kiln.load(0, 1);
        kiln.addFuel('w', 1);
        kiln.save();
        kiln.append('x');
        kiln.writeRing();
        due(Kilns.allOf(new RingKiln()), Kilns.allOf(other));
        due(Kilns.memoryOf(new RingKiln()), Kilns.memoryOf(other));
    }

    private static void load() {
        says(2, "Loads bricks into a chamber, which becomes green.");
        RingKiln kiln = Kilns.heated();
        kiln.load(4, 33);
        due("g 33 20", kiln.state(4) + " " + kiln.bricks(4) + " " + kiln.temperature(4));
        due("e e", kiln.state(3) + " " + kiln.state(5));
        says(2, CHAMBER);
        RingKiln ends = new RingKiln();
        ends.load(0, 5);
        ends.load(7, 6);
        due("5 6", ends.bricks(0) + " " + ends.bricks(7));
        says(2, "`bricks`: the number of bricks, 1 to 60");
        ends.load(1, 1);
        ends.load(2, 60);
        due("1 60", ends.bricks(1) + " " + ends.bricks(2));
        says(2, "Returns the number of green chambers after the call.");
        RingKiln mixed = fired();
        for (int chamber = 1; chamber < 7; chamber++) {
            if (mixed.temperature(chamber) <= 60) mixed.load(chamber, 1);
        }
        due("5 1 2", mixed.chambersIn('g') + " " + mixed.chambersIn('e') + " " + mixed.chambersIn('f'));
        due(220, mixed.temperature(1));
        mixed.setDraught(5);
        mixed.passHours(20);
        due(6, mixed.load(1, 9));
        due(1, new RingKiln().load(5, 1));
        RingKiln all = new RingKiln();
        for (int chamber = 0; chamber < 8; chamber++) due(chamber + 1, all.load(chamber, 1));
        says(2, NO_CHAMBER);
        refusedOutside(0, 7, INDEX, chamber -> kiln.load(chamber, 1));
        says(2, "Throws `IllegalArgumentException` if the number of bricks is out of range");
        refusedOutside(1, 60, ARGUMENT, bricks -> kiln.load(1, bricks));
        due("e 0", kiln.state(1) + " " + kiln.bricks(1));
        says(2, "Throws `IllegalStateException` if the chamber is not empty");
        refused(STATE, () -> kiln.load(4, 33));
        refused(STATE, () -> kiln.load(4, 1));
        RingKiln done = fired();
        done.setDraught(5);
        done.passHours(48);
        refused(STATE, () -> done.load(0, 1));
        due("20 f", done.bricks(0) + " " + done.state(0));
        done.unload(0);
        due(1, done.load(0, 1));
        says(2, "Throws `UnsupportedOperationException` if the chamber is not cool");
        RingKiln warm = new RingKiln();
        warmed(warm, 0, 5, 4);
        due(61, warm.temperature(1));
        refused(UNSUPPORTED, () -> warm.load(1, 1));
        RingKiln cool = new RingKiln();
        warmed(cool, 5, 5);
        due(60, cool.temperature(1));
        due(2, cool.load(1, 1));
    }

    /** Lets chamber 1 reach 100 degrees, empty, and cool with some draughts. */
    private static void warmed(RingKiln kiln, int... draughts) {
        kiln.addFuel('o', 9);
        kiln.feed(100);
        kiln.load(0, 1);
        kiln.light(0);
        kiln.passHours(2);
        kiln.quench();
        due(100, kiln.temperature(1));
        Kilns.coolBy(kiln, draughts);
    }

    private static void unload() {
        RingKiln kiln = fired();
        kiln.setDraught(5);
        kiln.passHours(48);
        says(3, "Takes the bricks of a fired chamber into the stock.");
        due("0 20", kiln.stock() + " " + kiln.bricks(0));
        kiln.unload(0);
        due("20 35", kiln.stock() + " " + kiln.brickTotal());
        says(3, "The chamber becomes empty.");
        due("e 0", kiln.state(0) + " " + kiln.bricks(0));
        says(3, CHAMBER);
        due(35, kiln.unload(7));
        due("e 35", kiln.state(7) + " " + kiln.stock());
        says(3, "Returns the number of bricks in the stock after the call.");
        RingKiln stock = Kilns.stocked();
        stock.buildWall(2, 1);
        Kilns.run(stock, "fuel o 9;feed 99;load 3 60;light 3;pass 6;pass 48");
        due(119, stock.unload(3));
        says(3, NO_CHAMBER);
        refusedOutside(0, 7, INDEX, kiln::unload);
        says(3, "Throws `IllegalStateException` if the chamber is not fired");
        refused(STATE, () -> kiln.unload(0));
        kiln.load(0, 5);
        refused(STATE, () -> kiln.unload(0));
        refused(STATE, () -> fired().unload(1));
        says(3, "Throws `UnsupportedOperationException` if the chamber is not cool");
        RingKiln hot = fired();
        refused(UNSUPPORTED, () -> hot.unload(0));
        hot.setDraught(5);
        hot.passHours(hot.hoursUntilCool(7) - 1);
        refused(UNSUPPORTED, () -> hot.unload(7));
        due("f 15", hot.state(7) + " " + hot.bricks(7));
        hot.passHours(1);
        due(15, hot.unload(7));
    }

    private static void light() {
        says(4, "Lights the fire in a chamber.");
        RingKiln kiln = Kilns.heated();
        kiln.load(0, 1);
        kiln.load(7, 1);
        kiln.light(7);
        due("true 7", kiln.isLit() + " " + kiln.fireChamber());
        says(4, CHAMBER);
        kiln.quench();
        kiln.light(0);
        due(0, kiln.fireChamber());
        kiln.quench();
        says(4, "Returns the heat in the store.");
        due(408, kiln.light(0));
        RingKiln empty = new RingKiln();
        empty.load(0, 1);
        due(0, empty.light(0));
        RingKiln full = Kilns.withHeat(999);
        full.load(0, 1);
        due(999, full.light(0));
        says(4, NO_CHAMBER);
        refusedOutside(0, 7, INDEX, full::light);
        full.quench();
        refusedOutside(0, 7, INDEX, full::light);
        says(4, "Throws `IllegalStateException` if the fire is lit");
        refused(STATE, () -> kiln.light(7));
        refused(STATE, () -> kiln.light(0));
        due(0, kiln.fireChamber());
        says(4, "Throws `UnsupportedOperationException` if the chamber is not green");
        refused(UNSUPPORTED, () -> full.light(1));
        refused(UNSUPPORTED, () -> fired().light(0));
        due(false, full.isLit());
    }

    private static void quench() {
        says(5, "Puts the fire out.");
        RingKiln kiln = Kilns.heated();
        kiln.load(7, 1);
        kiln.load(0, 1);
        kiln.light(7);
        kiln.passHours(2);
        int was = kiln.quench();
        due("false g 388 320", kiln.isLit() + " " + kiln.state(7) + " " + kiln.heat() + " " + kiln.temperature(7));
        says(5, "Returns the index of the chamber in which it was.");
        due(7, was);
        kiln.light(0);
        due(0, kiln.quench());
        kiln.light(7);
        kiln.passHours(4);
        due(0, kiln.quench());
        says(5, "Throws `IllegalStateException` if the fire is out");
        refused(STATE, kiln::quench);
        refused(STATE, new RingKiln()::quench);
        RingKiln burnt = new RingKiln();
        burnt.load(0, 1);
        burnt.light(0);
        burnt.passHours(1);
        refused(STATE, burnt::quench);
    }

    private static void setDraught() {
        says(6, "Sets the draught.");
        RingKiln kiln = new RingKiln();
        kiln.setDraught(4);
        due(4, kiln.draught());
        says(6, "`draught`: the new draught, 0 to 5");
        kiln.setDraught(0);
        due(0, kiln.draught());
        kiln.setDraught(5);
        due(5, kiln.draught());
        says(6, "Returns the previous draught.");
        due(5, kiln.setDraught(2));
        due(2, kiln.setDraught(2));
        due(1, new RingKiln().setDraught(0));
        says(6, "Throws `IllegalArgumentException` if the draught is out of range");
        refusedOutside(0, 5, ARGUMENT, kiln::setDraught);
        due(2, kiln.draught());
    }

    private static void passHours() {
        says(7, "Lets hours pass.");
        RingKiln kiln = Kilns.heated();
        kiln.load(0, 9);
        kiln.light(0);
        kiln.passHours(3);
        due("3 378 470", kiln.time() + " " + kiln.heat() + " " + kiln.temperature(0));
        says(7, "`hours`: the number of hours, 1 to 48");
        RingKiln fresh = new RingKiln();
        fresh.passHours(1);
        due(1, fresh.time());
        fresh.passHours(48);
        due(49, fresh.time());
        says(7, "Returns the number of bricks that become fired in these hours.");
        due(0, kiln.passHours(2));
        due(9, kiln.passHours(1));
        due(0, kiln.passHours(48));
        RingKiln all = Kilns.withHeat(999);
        for (int chamber = 0; chamber < 8; chamber++) all.load(chamber, 60);
        all.light(3);
        // 6 hours for the first chamber and 5 for each other one.
        due(420, all.passHours(40));
        due(60, all.passHours(48));
        says(7, "Throws `IllegalArgumentException` if the number of hours is out of range");
        refusedOutside(1, 48, ARGUMENT, fresh::passHours);
        due(49, fresh.time());
    }

    private static void fireQueries() {
        says(12, "Returns the time.");
        RingKiln kiln = new RingKiln();
        due(0, kiln.time());
        says(12, "Returns the number of hours that have passed.");
        kiln.passHours(48);
        kiln.passHours(2);
        due(50, kiln.time());
        kiln.firedIn(100);
        due(50, kiln.time());
        kiln.undo();
        due(48, kiln.time());
        says(13, "Returns whether the fire is lit.");
        due(false, kiln.isLit());
        says(13, "Returns true if it is lit.");
        kiln.load(0, 1);
        kiln.light(0);
        due(true, kiln.isLit());
        says(14, "Returns the chamber with the fire.");
        due(0, kiln.fireChamber());
        says(14, "Returns the index of the chamber.");
        kiln.quench();
        kiln.load(7, 1);
        kiln.light(7);
        due(7, kiln.fireChamber());
        says(14, "Throws `NoSuchElementException` if the fire is out");
        kiln.quench();
        refused(MISSING, kiln::fireChamber);
        refused(MISSING, new RingKiln()::fireChamber);
        refused(MISSING, fired()::fireChamber);
        says(15, "Returns the heat in the store.");
        due(0, kiln.heat());
        due(408, Kilns.heated().heat());
        says(15, "Returns the number of units.");
        for (int units : new int[] {3, 8, 9, 12, 500, 998, 999}) due(units, Kilns.withHeat(units).heat());
        says(16, "Returns the draught.");
        due(1, kiln.draught());
        says(16, "Returns the draught, 0 to 5.");
        for (int draught = 0; draught <= 5; draught++) {
            kiln.setDraught(draught);
            due(draught, kiln.draught());
        }
    }

    private static void chamberQueries() {
        RingKiln kiln = Kilns.withHeat(999);
        kiln.load(7, 60);
        kiln.load(0, 1);
        kiln.light(7);
        kiln.passHours(6);
        says(17, "Returns the state of a chamber.");
        due("f g e", kiln.state(7) + " " + kiln.state(0) + " " + kiln.state(1));
        says(17, CHAMBER);
        due("g f", kiln.state(0) + " " + kiln.state(7));
        says(17, "Returns 'e' for an empty, 'g' for a green and 'f' for a fired chamber.");
        due("102 103 101", (int) kiln.state(7) + " " + (int) kiln.state(0) + " " + (int) kiln.state(6));
        says(17, NO_CHAMBER);
        refusedOutside(0, 7, INDEX, kiln::state);
        says(18, "Returns the number of bricks in a chamber.");
        due("60 1", kiln.bricks(7) + " " + kiln.bricks(0));
        says(18, CHAMBER);
        due("1 60", kiln.bricks(0) + " " + kiln.bricks(7));
        says(18, "Returns the number of bricks, 0 for an empty chamber.");
        due("0 0", kiln.bricks(1) + " " + kiln.bricks(6));
        RingKiln taken = Kilns.stocked();
        due(0, taken.bricks(3));
        says(18, NO_CHAMBER);
        refusedOutside(0, 7, INDEX, kiln::bricks);
        says(19, "Returns the temperature of a chamber.");
        due("920 260", kiln.temperature(7) + " " + kiln.temperature(0));
        says(19, CHAMBER);
        due("260 920", kiln.temperature(0) + " " + kiln.temperature(7));
        says(19, "Returns the temperature in degrees.");
        due(20, kiln.temperature(1));
        says(19, NO_CHAMBER);
        refusedOutside(0, 7, INDEX, kiln::temperature);
    }

    private static String ranking(RingKiln kiln) {
        StringBuilder text = new StringBuilder();
        for (int rank = 0; rank < 8; rank++) text.append(kiln.chamberAtRank(rank));
        return text.toString();
    }

    private static void ranks() {
        says(20, "Returns the chamber at a rank.");
        RingKiln kiln = Kilns.heated();
        kiln.load(5, 1);
        kiln.light(5);
        kiln.passHours(1);
        due("5 6 0", kiln.chamberAtRank(0) + " " + kiln.chamberAtRank(1) + " " + kiln.chamberAtRank(2));
        says(20, "Chambers are ranked by temperature in descending order, then by the number of bricks in "
                + "descending order, then by index in ascending order.");
        due("01234567", ranking(new RingKiln()));
        kiln.load(7, 60);
        kiln.load(1, 59);
        kiln.load(3, 60);
        kiln.load(2, 1);
        due("56371204", ranking(kiln));
        kiln.load(0, 1);
        due("56371024", ranking(kiln));
        says(20, "`rank`: the rank, 0 to 7");
        due("5 4", kiln.chamberAtRank(0) + " " + kiln.chamberAtRank(7));
        says(20, "Returns the index of the chamber.");
        due(7, kiln.chamberAtRank(3));
        says(20, "Throws `NoSuchElementException` if the rank is out of range");
        refusedOutside(0, 7, MISSING, kiln::chamberAtRank);
    }

    private static void chambersIn() {
        says(21, "Returns the number of chambers in a state.");
        RingKiln kiln = fired();
        kiln.load(4, 1);
        due("5 1 2", kiln.chambersIn('e') + " " + kiln.chambersIn('g') + " " + kiln.chambersIn('f'));
        says(21, "`state`: the state, 'e', 'g' or 'f'");
        RingKiln fresh = new RingKiln();
        due("8 0 0", fresh.chambersIn('e') + " " + fresh.chambersIn('g') + " " + fresh.chambersIn('f'));
        says(21, "Returns the number of chambers.");
        for (int chamber = 0; chamber < 8; chamber++) fresh.load(chamber, 60);
        due("0 8 0", fresh.chambersIn('e') + " " + fresh.chambersIn('g') + " " + fresh.chambersIn('f'));
        says(21, "Throws `IllegalArgumentException` if there is no such state");
        for (char state : "EGFdh*: \0\u0165\u0167\uffff".toCharArray()) {
            refused(ARGUMENT, () -> kiln.chambersIn(state));
        }
    }

    private static void hoursUntilOut() {
        says(22, "Predicts after how many hours the fire is out, if only hours pass.");
        RingKiln kiln = Kilns.heated();
        kiln.load(7, 1);
        kiln.load(0, 1);
        kiln.light(7);
        String state = Kilns.stateOf(kiln);
        due(11, kiln.hoursUntilOut());
        due(state, Kilns.stateOf(kiln));
        kiln.passHours(10);
        due("true 1", kiln.isLit() + " " + kiln.hoursUntilOut());
        kiln.passHours(1);
        due(false, kiln.isLit());
        says(22, "Returns the number of hours, 0 if it is out now.");
        due(0, kiln.hoursUntilOut());
        due(0, new RingKiln().hoursUntilOut());
        // It goes out in the first hour whose 10 units are not there.
        int[][] rows = {{0, 1}, {9, 1}, {11, 2}, {19, 2}, {20, 3}, {50, 6}, {49, 5}, {60, 6}, {999, 6}};
        for (int[] row : rows) {
            RingKiln one = Kilns.withHeat(row[0]);
            one.load(4, 1);
            one.light(4);
            due(row[0] + " " + row[1], row[0] + " " + one.hoursUntilOut());
        }
        says(22, "Throws `NoSuchElementException` if it is still lit after 100 hours");
        // No store lasts so long, and no ring: all of it takes 6 hours and 5 for each other chamber.
        RingKiln longest = Kilns.withHeat(999);
        for (int chamber = 0; chamber < 8; chamber++) longest.load(chamber, 1);
        longest.light(0);
        due(41, longest.hoursUntilOut());
        RingKiln stretched = slow();
        due(Check.outcome(stretched::hoursUntilOut), Check.outcome(() -> hoursTillOut(slow())));
    }

    /** Returns after how many hours the fire is out, by letting them pass. */
    private static int hoursTillOut(RingKiln kiln) {
        int hours = 0;
        for (; kiln.isLit() && hours <= 100; hours++) kiln.passHours(1);
        return hours;
    }

    private static void hoursUntilCool() {
        says(23, "Predicts after how many hours a chamber is cool for the first time, if only hours pass.");
        RingKiln kiln = new RingKiln();
        warmed(kiln, 1);
        kiln.load(2, 1);
        kiln.load(3, 1);
        due(92, kiln.temperature(1));
        String state = Kilns.stateOf(kiln);
        // 92, 85, 79, 74, 69, 65, 61, 57.
        due(7, kiln.hoursUntilCool(1));
        due(state, Kilns.stateOf(kiln));
        RingKiln again = Kilns.heated();
        for (int chamber = 0; chamber < 3; chamber++) again.load(chamber, 5);
        again.setDraught(5);
        again.light(2);
        again.passHours(1);
        again.quench();
        again.light(0);
        // 170, 125, 94, 72, 57, and only then does the fire come near.
        due(4, again.hoursUntilCool(2));
        again.passHours(8);
        due(true, again.temperature(2) > 60);
        says(23, CHAMBER);
        due("0 0", new RingKiln().hoursUntilCool(0) + " " + new RingKiln().hoursUntilCool(7));
        due(true, fired().hoursUntilCool(0) > fired().hoursUntilCool(7));
        says(23, "Returns the number of hours, 0 if it is cool now.");
        // The fire in chamber 0 does not matter while chamber 1 is cool now.
        RingKiln lit = Kilns.heated();
        lit.load(0, 1);
        lit.load(1, 1);
        lit.light(0);
        due("0 0", lit.hoursUntilCool(0) + " " + lit.hoursUntilCool(1));
        lit.passHours(1);
        due("60 0", lit.temperature(1) + " " + lit.hoursUntilCool(1));
        kiln.passHours(6);
        due("61 1", kiln.temperature(1) + " " + kiln.hoursUntilCool(1));
        kiln.passHours(1);
        due("57 0", kiln.temperature(1) + " " + kiln.hoursUntilCool(1));
        says(23, NO_CHAMBER);
        refusedOutside(0, 7, INDEX, kiln::hoursUntilCool);
        says(23, "Throws `NoSuchElementException` if it is not cool within 100 hours");
        RingKiln slow = slow();
        refused(MISSING, () -> slow.hoursUntilCool(7));
        int hours = 0;
        while (Check.outcome(() -> slow.hoursUntilCool(7)).startsWith("throws") && hours < 100) {
            slow.passHours(1);
            hours++;
        }
        due(true, hours > 0);
        // An hour before, it was 101 hours.
        for (int left = 100; left >= 98; left--) {
            due(left, slow.hoursUntilCool(7));
            slow.passHours(1);
        }
        slow.passHours(48);
        slow.passHours(48);
        due(1, slow.hoursUntilCool(7));
        slow.passHours(1);
        due(true, slow.temperature(7) <= 60);
    }

    private static void firedIn() {
        says(24, "Predicts how many bricks become fired in some hours, if only hours pass.");
        RingKiln kiln = Kilns.heated();
        kiln.load(7, 5);
        kiln.load(0, 7);
        kiln.light(7);
        String state = Kilns.stateOf(kiln);
        due("0 5 5 12", kiln.firedIn(5) + " " + kiln.firedIn(6) + " " + kiln.firedIn(10) + " " + kiln.firedIn(11));
        due(state, Kilns.stateOf(kiln));
        says(24, "`hours`: the number of hours, 0 to 100");
        due("0 12", kiln.firedIn(0) + " " + kiln.firedIn(100));
        says(24, "Returns the number of bricks.");
        kiln.passHours(6);
        // What was fired before does not count.
        due("0 7", kiln.firedIn(0) + " " + kiln.firedIn(100));
        due(0, new RingKiln().firedIn(100));
        says(24, "Throws `IllegalArgumentException` if the number of hours is out of range");
        refusedOutside(0, 100, ARGUMENT, kiln::firedIn);
    }
}
