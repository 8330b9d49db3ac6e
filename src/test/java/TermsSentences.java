/** The sentences of the terms: chambers, fire, one hour, fuels, walls, programs, undo and exceptions. */
final class TermsSentences extends Sentences {
    private TermsSentences() {
    }

    static void ask() {
        chambers();
        fire();
        hoursInOrder();
        heating();
        preheating();
        cooling();
        firing();
        moving();
        fuels();
        bestMixture();
        walls();
        programs();
        errorPositions();
        undo();
        whatUndoConcerns();
    }

    private static void chambers() {
        says(TERMS, "There are 8 chambers with the indices 0 to 7 in a ring; the next chamber after 7 is 0.");
        RingKiln kiln = Kilns.heated();
        for (int chamber = 0; chamber < 8; chamber++) due('e', kiln.state(chamber));
        refused(INDEX, () -> kiln.state(8));
        refused(INDEX, () -> kiln.state(-1));
        kiln.load(7, 3);
        kiln.load(0, 4);
        kiln.light(7);
        due(3, kiln.passHours(6));
        due("260 20 20 20 20 20 20 920", Kilns.temperatures(kiln));
        due(0, kiln.fireChamber());
        says(TERMS, "A chamber is empty, green or fired, initially empty.");
        due("e e e", new RingKiln().state(0) + " " + new RingKiln().state(4) + " " + new RingKiln().state(7));
        due("e g f", kiln.state(1) + " " + kiln.state(0) + " " + kiln.state(7));
        due(8, kiln.chambersIn('e') + kiln.chambersIn('g') + kiln.chambersIn('f'));
        says(TERMS, "A green or fired chamber contains from 1 to 60 bricks.");
        RingKiln full = Kilns.heated();
        full.load(2, 1);
        full.load(3, 60);
        refused(ARGUMENT, () -> full.load(4, 0));
        refused(ARGUMENT, () -> full.load(4, 61));
        due("1 60 0", full.bricks(2) + " " + full.bricks(3) + " " + full.bricks(4));
        full.light(2);
        full.passHours(11);
        due("f1 f60", full.state(2) + "" + full.bricks(2) + " " + full.state(3) + full.bricks(3));
        says(TERMS, "A chamber has a temperature in degrees from 20 to 1100, initially 20.");
        due("20 20 20 20 20 20 20 20", Kilns.temperatures(new RingKiln()));
        // As soon as a draught's part of what exceeds 20 is less than 1, nothing is left to cool.
        int[] lowest = {39, 29, 26, 24, 23, 23};
        for (int draught = 0; draught <= 5; draught++) due(lowest[draught], longCooled(draught));
        // The hottest chamber that there can be was 1 degree short of being fired an hour before.
        due(1049, hottest().temperature(0));
        says(TERMS, "A chamber is cool if its temperature is at most 60.");
        RingKiln cool = cooledTo(60);
        due(60, cool.temperature(0));
        due(0, cool.hoursUntilCool(0));
        due(5, cool.unload(0));
        RingKiln warm = cooledTo(61);
        due(61, warm.temperature(0));
        due(1, warm.hoursUntilCool(0));
        refused(UNSUPPORTED, () -> warm.unload(0));
    }

    /** Returns the temperature of a chamber that was at 170 degrees, after 240 hours with a draught. */
    private static int longCooled(int draught) {
        RingKiln kiln = Kilns.heated();
        kiln.load(0, 5);
        kiln.light(0);
        kiln.passHours(1);
        kiln.quench();
        kiln.setDraught(draught);
        for (int days = 0; days < 10; days += 2) kiln.passHours(48);
        return kiln.temperature(0);
    }

    private static RingKiln hottest() {
        RingKiln kiln = below900();
        kiln.passHours(1);
        return kiln;
    }

    /** Returns a kiln with the fire in chamber 0, which is green and at 899 degrees. */
    private static RingKiln below900() {
        RingKiln kiln = Kilns.heated();
        kiln.load(0, 5);
        kiln.light(0);
        kiln.passHours(5);
        kiln.quench();
        kiln.passHours(17);
        kiln.light(0);
        kiln.passHours(5);
        return kiln;
    }

    /** Returns a kiln with 5 fired bricks in chamber 0, which has cooled from 920 degrees to 60 or 61. */
    private static RingKiln cooledTo(int degrees) {
        RingKiln kiln = Kilns.heated();
        kiln.load(0, 5);
        kiln.light(0);
        kiln.passHours(6);
        if (degrees == 60) Kilns.coolBy(kiln, 4, 5, 5, 5, 5, 5, 5, 5, 5);
        else Kilns.coolBy(kiln, 0, 3, 5, 5, 5, 5, 5, 5, 5, 5);
        return kiln;
    }

    private static void fire() {
        says(TERMS, "The fire is lit in one of the chambers, or it is out, as initially.");
        RingKiln kiln = new RingKiln();
        due(false, kiln.isLit());
        refused(MISSING, kiln::fireChamber);
        kiln.load(3, 1);
        kiln.load(4, 1);
        kiln.light(3);
        due("true 3", kiln.isLit() + " " + kiln.fireChamber());
        refused(STATE, () -> kiln.light(4));
        due(3, kiln.fireChamber());
        says(TERMS, "There is a store of heat, which is a number of units from 0 to 999, initially 0.");
        due(0, new RingKiln().heat());
        RingKiln full = Kilns.withHeat(999);
        due(999, full.heat());
        full.addFuel('w', 1);
        refused(STATE, () -> full.feed(1));
        due(999, full.heat());
        RingKiln poor = Kilns.withHeat(20);
        poor.load(0, 1);
        poor.light(0);
        poor.passHours(2);
        due(0, poor.heat());
        poor.passHours(48);
        due(0, poor.heat());
        says(TERMS, "The draught is from 0 to 5, initially 1.");
        due(1, kiln.draught());
        kiln.setDraught(0);
        due(0, kiln.draught());
        kiln.setDraught(5);
        refused(ARGUMENT, () -> kiln.setDraught(6));
        refused(ARGUMENT, () -> kiln.setDraught(-1));
        due(5, kiln.draught());
    }

    private static void hoursInOrder() {
        says(TERMS, "In one hour the following things happen in order.");
        RingKiln kiln = Kilns.heated();
        for (int chamber = 0; chamber < 3; chamber++) kiln.load(chamber, 1);
        kiln.light(2);
        kiln.passHours(2);
        kiln.quench();
        kiln.light(0);
        due("20 20 320 100", Kilns.temperatures(kiln).substring(0, 13));
        kiln.passHours(5);
        due("770 220 199 69", Kilns.temperatures(kiln).substring(0, 14));
        // Chamber 2 still cools in the hour in which the fire comes to 1, and is preheated in the next one.
        due(1, kiln.passHours(1));
        due("920 260 182 65", Kilns.temperatures(kiln).substring(0, 14));
        kiln.passHours(1);
        due("830 410 222 61", Kilns.temperatures(kiln).substring(0, 14));
        says(TERMS, "All divisions of integers are rounded down.");
        RingKiln half = Kilns.heated();
        half.load(0, 1);
        half.light(0);
        half.passHours(1);
        half.quench();
        // A twentieth of 150 is 7.5, of 143 it is 7.15, of 136 it is 6.8.
        Kilns.coolBy(half, 0);
        due(163, half.temperature(0));
        Kilns.coolBy(half, 0);
        due(156, half.temperature(0));
        Kilns.coolBy(half, 0);
        due(150, half.temperature(0));
        says(TERMS, "The time, which is initially 0, increases by 1.");
        RingKiln fresh = new RingKiln();
        due(0, fresh.time());
        fresh.passHours(1);
        due(1, fresh.time());
        fresh.passHours(48);
        due(49, fresh.time());
    }

    private static void heating() {
        says(TERMS, "If the fire is lit and the store has fewer than 10 units, the fire goes out.");
        RingKiln nine = lit(9);
        due(0, nine.passHours(1));
        due("false 9", nine.isLit() + " " + nine.heat());
        due("20 20 20 20 20 20 20 20", Kilns.temperatures(nine));
        RingKiln none = new RingKiln();
        none.load(0, 1);
        due(0, none.light(0));
        none.passHours(1);
        due("false 0", none.isLit() + " " + none.heat());
        RingKiln ten = lit(20);
        ten.passHours(1);
        due("true 10", ten.isLit() + " " + ten.heat());
        ten.passHours(1);
        due("true 0", ten.isLit() + " " + ten.heat());
        due("320 100 20 20 20 20 20 20", Kilns.temperatures(ten));
        ten.passHours(1);
        due("false 0", ten.isLit() + " " + ten.heat());
        // The fire was out before the cooling, so that its chamber and the next one cool in this hour.
        due("290 92 20 20 20 20 20 20", Kilns.temperatures(ten));
        says(TERMS, "If the fire is lit, the store decreases by 10 units, and the temperature of the chamber with "
                + "the fire increases by 150, but not above 1100.");
        RingKiln kiln = lit(999);
        for (int hour = 1; hour <= 5; hour++) {
            kiln.passHours(1);
            due(999 - 10 * hour, kiln.heat());
            due(20 + 150 * hour, kiln.temperature(0));
        }
        due(1049, hottest().temperature(0));
        kiln.quench();
        kiln.passHours(1);
        due(949, kiln.heat());
        due(770 - 75, kiln.temperature(0));
    }

    /** Returns a kiln with some heat, one brick in chamber 0 and the fire there. */
    private static RingKiln lit(int units) {
        RingKiln kiln = Kilns.withHeat(units);
        kiln.load(0, 1);
        kiln.light(0);
        return kiln;
    }

    private static void preheating() {
        says(TERMS, "If the temperature of the next chamber is less than 500, it increases by 40, but not above "
                + "500.");
        due("60 100", preheated(20, 1) + " " + preheated(20, 2));
        due("499 500", preheated(459, 0) + " " + preheated(459, 1));
        due("500 500", preheated(460, 0) + " " + preheated(460, 1));
        due("500 500", preheated(461, 0) + " " + preheated(461, 1));
        due("500 500", preheated(499, 0) + " " + preheated(499, 1));
        due("500 500", preheated(500, 0) + " " + preheated(500, 1));
        due("545 545", preheated(545, 0) + " " + preheated(545, 1));
    }

    /** Returns the temperature of chamber 1 beside the fire in chamber 0, one hour or two hours after some degrees. */
    private static int preheated(int degrees, int moreHours) {
        RingKiln kiln = Kilns.heated();
        kiln.load(0, 1);
        kiln.load(1, 1);
        if (degrees > 20) {
            kiln.light(1);
            kiln.passHours(5);
            kiln.quench();
        }
        switch (degrees) {
            case 459 -> Kilns.coolBy(kiln, 0, 2, 2, 2);
            case 460 -> Kilns.coolBy(kiln, 1, 1, 2, 2);
            case 461 -> Kilns.coolBy(kiln, 2, 1, 1, 2);
            case 499 -> Kilns.coolBy(kiln, 2, 4);
            case 500 -> Kilns.coolBy(kiln, 3, 3);
            case 545 -> Kilns.coolBy(kiln, 5);
            default -> due(20, kiln.temperature(1));
        }
        due(degrees, kiln.temperature(1));
        kiln.light(0);
        kiln.passHours(degrees == 20 ? moreHours : moreHours + 1);
        return kiln.temperature(1);
    }

    private static void cooling() {
        says(TERMS, "Each chamber cools, except the chamber with the fire and the next one if the fire is lit: its "
                + "temperature decreases by a twentieth of the product of what it exceeds 20 and the draught plus "
                + "1.");
        int[] after = {448, 425, 403, 380, 358, 335};
        for (int draught = 0; draught <= 5; draught++) {
            RingKiln kiln = lit(999);
            kiln.passHours(3);
            kiln.quench();
            due("470 140", kiln.temperature(0) + " " + kiln.temperature(1));
            Kilns.coolBy(kiln, draught);
            due(after[draught], kiln.temperature(0));
            due(140 - 6 * (draught + 1), kiln.temperature(1));
        }
        // With the fire in 7 and chamber 0 next to it, chambers 1 to 6 cool.
        RingKiln ring = Kilns.heated();
        for (int chamber = 0; chamber < 8; chamber++) ring.load(chamber, 1);
        for (int chamber = 0; chamber < 8; chamber++) {
            ring.light(chamber);
            ring.passHours(1);
            ring.quench();
        }
        due("141 123 134 146 159 174 191 210", Kilns.temperatures(ring));
        ring.light(7);
        ring.passHours(1);
        due("181 113 123 134 146 159 174 360", Kilns.temperatures(ring));
        ring.quench();
        ring.passHours(1);
        due("165 104 113 123 134 146 159 326", Kilns.temperatures(ring));
    }

    private static void firing() {
        says(TERMS, "If the fire is lit and the temperature of its chamber is at least 900, the chamber becomes "
                + "fired if it is green.");
        RingKiln short1 = below900();
        due("899 g 0 true", short1.temperature(0) + " " + short1.state(0) + " " + short1.fireChamber() + " "
                + short1.isLit());
        due(5, short1.passHours(1));
        due("1049 f", short1.temperature(0) + " " + short1.state(0));
        RingKiln just = Kilns.heated();
        just.load(0, 5);
        just.light(0);
        just.passHours(1);
        just.quench();
        Kilns.coolBy(just, 0, 0, 0);
        due(150, just.temperature(0));
        just.light(0);
        due(0, just.passHours(4));
        due("750 g", just.temperature(0) + " " + just.state(0));
        due(5, just.passHours(1));
        due("900 f", just.temperature(0) + " " + just.state(0));
    }

    private static void moving() {
        says(TERMS, "Then the fire moves to the next chamber if that is green; otherwise it goes out.");
        RingKiln green = lit(999);
        green.load(1, 2);
        green.passHours(5);
        due(0, green.fireChamber());
        green.passHours(1);
        due(1, green.fireChamber());
        RingKiln empty = lit(999);
        empty.load(2, 2);
        empty.passHours(6);
        due("f false 939", empty.state(0) + " " + empty.isLit() + " " + empty.heat());
        RingKiln fired = Kilns.withHeat(999);
        fired.load(1, 2);
        fired.light(1);
        fired.passHours(6);
        fired.load(0, 1);
        fired.light(0);
        fired.passHours(6);
        due("f f false", fired.state(0) + " " + fired.state(1) + " " + fired.isLit());
        RingKiln round = Kilns.withHeat(999);
        for (int chamber = 0; chamber < 8; chamber++) round.load(chamber, 1);
        round.light(5);
        // 6 hours for the chamber 5, and 5 for each of 6, 7, 0, 1, 2, 3 and 4.
        due(7, round.passHours(40));
        due(4, round.fireChamber());
        due(1, round.passHours(1));
        due("false 8", round.isLit() + " " + round.chambersIn('f'));
    }

    private static void fuels() {
        says(TERMS, "There are three fuels: 'w' for wood, 'c' for coal and 'o' for oil.");
        RingKiln kiln = new RingKiln();
        for (char kind : "wco".toCharArray()) due(0, kiln.fuel(kind));
        refusedKinds(kiln::fuel);
        says(TERMS, "A piece of wood gives 3 units of heat, a piece of coal 8 and a piece of oil 12.");
        int[] heats = {3, 8, 12};
        for (int kind = 0; kind < 3; kind++) {
            char name = "wco".charAt(kind);
            RingKiln one = new RingKiln();
            one.addFuel(name, 1);
            refused(UNSUPPORTED, () -> one.feed(name == 'w' ? 4 : name == 'c' ? 9 : 13));
            one.feed(heats[kind]);
            due(heats[kind], one.heat());
            due(0, one.fuel(name));
        }
        says(TERMS, "There are from 0 to 99 pieces of each fuel, initially none.");
        RingKiln full = Kilns.fuelled(99, 99, 99);
        for (char kind : "wco".toCharArray()) {
            refused(STATE, () -> full.addFuel(kind, 1));
            due(99, full.fuel(kind));
        }
        RingKiln last = Kilns.fuelled(0, 1, 0);
        last.feed(1);
        due("0 0 0", last.fuel('w') + " " + last.fuel('c') + " " + last.fuel('o'));
        says(TERMS, "The price of a piece is from 1 to 20 coins; initially it is 1 for wood, 3 for coal and 5 for "
                + "oil.");
        due("1 3 5", kiln.price('w') + " " + kiln.price('c') + " " + kiln.price('o'));
        for (char kind : "wco".toCharArray()) {
            kiln.setPrice(kind, 20);
            refused(ARGUMENT, () -> kiln.setPrice(kind, 21));
            due(20, kiln.setPrice(kind, 1));
            refused(ARGUMENT, () -> kiln.setPrice(kind, 0));
            due(1, kiln.price(kind));
        }
    }

    private static void bestMixture() {
        says(TERMS, "A mixture consists of some pieces of each fuel, not more than there are.");
        RingKiln little = Kilns.fuelled(2, 1, 1);
        mixture(little, 26, 10, 2, 1, 1);
        refused(UNSUPPORTED, () -> little.lowestCost(27));
        mixture(little, 7, 3, 0, 1, 0);
        says(TERMS, "Its heat and its cost are the sums over its pieces.");
        due(10, little.feed(26));
        due("26 10", little.heat() + " " + little.paidTotal());
        RingKiln dear = Kilns.priced(Kilns.fuelled(2, 1, 1), 20, 19, 18);
        due(2 * 20 + 19 + 18, dear.feed(26));
        due("26 77", dear.heat() + " " + dear.paidTotal());
        says(TERMS, "The best mixture for a number of units is a mixture with at least this heat that has the "
                + "lowest cost; among several of these the one with the least heat, among several of these the one "
                + "with the most wood, and among several of these the one with the most coal.");
        // Exactly the heat is enough, and one unit more needs one piece more.
        mixture(Kilns.fuelled(9, 0, 0), 9, 3, 3, 0, 0);
        mixture(Kilns.fuelled(9, 0, 0), 10, 4, 4, 0, 0);
        // The lowest cost comes before the least heat: a piece of oil for 5 coins, not one of wood for 6.
        mixture(Kilns.priced(Kilns.fuelled(9, 9, 9), 6, 6, 5), 1, 5, 0, 0, 1);
        // The least heat comes before the most wood: 8 units of coal, not 9 of wood for the same 3 coins.
        mixture(Kilns.fuelled(9, 9, 9), 8, 3, 0, 1, 0);
        // It comes before the most coal too: 12 units of oil, not 16 of coal for the same 10 coins.
        mixture(Kilns.priced(Kilns.fuelled(0, 9, 9), 1, 5, 10), 12, 10, 0, 0, 1);
        // Of the same cost and the same heat, 24 units: 8 of wood, or 4 and oil, or 3 of coal, or 2 of oil.
        mixture(Kilns.priced(Kilns.fuelled(9, 9, 9), 3, 8, 12), 24, 24, 8, 0, 0);
        mixture(Kilns.priced(Kilns.fuelled(7, 9, 9), 3, 8, 12), 24, 24, 4, 0, 1);
        mixture(Kilns.priced(Kilns.fuelled(3, 9, 9), 3, 8, 12), 24, 24, 0, 3, 0);
        mixture(Kilns.priced(Kilns.fuelled(3, 2, 9), 3, 8, 12), 24, 24, 0, 0, 2);
        mixture(Kilns.priced(Kilns.fuelled(3, 9, 9), 3, 8, 12), 48, 48, 0, 6, 0);
        mixture(Kilns.priced(Kilns.fuelled(3, 5, 9), 3, 8, 12), 48, 48, 0, 3, 2);
    }

    static void mixture(RingKiln kiln, int units, int cost, int wood, int coal, int oil) {
        due(cost, kiln.lowestCost(units));
        due(cost, kiln.lowestCostByTrying(units));
        due(wood + " " + coal + " " + oil, kiln.piecesInMixture('w', units) + " "
                + kiln.piecesInMixture('c', units) + " " + kiln.piecesInMixture('o', units));
    }

    private static void walls() {
        RingKiln kiln = new RingKiln();
        says(TERMS, "A course of a wall with a width consists of bricks of the lengths 2 and 3 in a row whose "
                + "lengths add up to the width.");
        // 2; 3; 22; 23 and 32; 222 and 33; 223, 232 and 322; 2222, 233, 323 and 332.
        int[] counts = {1, 1, 1, 2, 2, 3, 4};
        for (int width = 2; width <= 8; width++) due(counts[width - 2], kiln.courseCount(width));
        says(TERMS, "Its joints are the distances from its left end at which a brick ends and another one begins.");
        // The ends of a course are no joints: a course of one brick lies on itself, one of two bricks does not.
        due("1 1 0", kiln.wallCount(2, 8) + " " + kiln.wallCount(3, 8) + " " + kiln.wallCount(4, 2));
        // 23 has its joint at 2 and 32 at 3, counted from the left.
        due("2 2", kiln.wallCount(5, 2) + " " + kiln.wallCount(5, 8));
        says(TERMS, "A wall consists of some courses of the same width, one above the other, such that two courses "
                + "one above the other have no joint at the same distance.");
        due("3 2", kiln.wallCount(7, 1) + " " + kiln.wallCount(7, 2));
        // 222 and 33 in turn: the third course may have the joints of the first one.
        due("2 2", kiln.wallCount(6, 2) + " " + kiln.wallCount(6, 3));
        // 2222 goes with 323 alone, and 233 with 332.
        due("4 4", kiln.wallCount(8, 1) + " " + kiln.wallCount(8, 2));
    }

    private static void programs() {
        says(TERMS, "The text buffer holds at most 60 characters.");
        RingKiln kiln = new RingKiln();
        for (int count = 1; count <= 60; count++) due(count, kiln.append(' '));
        refused(STATE, () -> kiln.append(' '));
        says(TERMS, "A program has this grammar:");
        RingKiln fresh = new RingKiln();
        due(1, Kilns.run(fresh, "load 0 1"));
        due(1, Kilns.run(fresh, "load 7 060"));
        due(3, Kilns.run(fresh, "pass 1;pass 01;pass 001"));
        due(3, fresh.time());
        String[] others = {"", ";", "pass 1;", ";pass 1", "pass 1;;pass 1", "pass 1 ;pass 1", "pass 1; pass 1",
            " pass 1", "pass 1 ", "pass  1", "pass", "pass ", "pass1", "pass 0001", "pass -1", "pass +1", "pass a",
            "PASS 1", "Pass 1", "passe 1", "load 10 1", "load 01 1", "load 1", "load 1 ", "load 1  1", "take",
            "take 01", "light 00", "out 1", "out;", "draught 01", "fuel w", "fuel w ", "fuel W 1", "fuel wc 1",
            "fuel 1 w", "price x 1", "feed w 1", "feed 1000", "wall 2", "wall 2 ", "wall 2 10", "wall 1000 1",
            "wall 2 1 1", "undo", "save", "run", "pass 1\n", "pass\t1", "pass 1,pass 1", "pass \u0661", "\0"};
        for (String text : others) {
            RingKiln other = new RingKiln();
            refused(ARGUMENT, () -> Kilns.run(other, text));
            due(0, other.time());
        }
        says(TERMS, "The commands call load (chamber, bricks), unload, light, quench, setDraught, addFuel (kind, "
                + "pieces), setPrice (kind, price), feed, passHours and buildWall (width, courses).");
        RingKiln one = new RingKiln();
        due(4, Kilns.run(one, "load 6 7;fuel c 20;price c 2;fuel w 3"));
        due("g 7 20 2 3", one.state(6) + " " + one.bricks(6) + " " + one.fuel('c') + " " + one.price('c') + " "
                + one.fuel('w'));
        // 12 pieces of coal and 2 of wood have 102 units for 26 coins, 13 pieces of coal 104.
        due(4, Kilns.run(one, "feed 100;light 6;draught 5;pass 6"));
        due("42 5 6 f", one.heat() + " " + one.draught() + " " + one.time() + " " + one.state(6));
        due(2, Kilns.run(one, "pass 48;take 6"));
        due("e 7", one.state(6) + " " + one.stock());
        due(3, Kilns.run(one, "wall 3 2;load 1 1;light 1"));
        due("5 1 1", one.stock() + " " + one.walls() + " " + one.fireChamber());
        due(1, Kilns.run(one, "out"));
        due(false, one.isLit());
    }

    private static void errorPositions() {
        says(TERMS, "The error position of a text that is not a program is the index of the first character that "
                + "cannot continue any program with the same preceding characters, or the length of the text if "
                + "the text is a proper prefix of a program.");
        // Every proper prefix of a program that is no program itself ends where it could go on.
        String[] programs = {"load 1 123", "take 1", "light 1", "out", "draught 1", "fuel w 123", "price c 123",
            "feed 123", "pass 123", "wall 123 1", "out;load 1 1", "wall 1 1;price o 1"};
        for (String program : programs) {
            for (int length = 0; length < program.length(); length++) {
                String prefix = program.substring(0, length);
                if (!isWhole(prefix)) errorAt(length, prefix);
                // No program has a sign like these, wherever it comes.
                for (char sign : "~\0\uffff".toCharArray()) {
                    errorAt(length, prefix + sign);
                    errorAt(length, prefix + sign + program.substring(length));
                }
            }
        }
        // The bar stands at the error position of each text; at the beginning it says that this is the length.
        String[] texts = {
            "|loa", "lo| d", "l|a", "|li", "|p", "|pr", "pr|a", "|f", "f|o", "fu|f", "o|il", "load 1 123|4",
            "load 1|2", "out| out", "out;out| out", "|out;", "out;|;", "fuel |d 1", "wall 12|;", "wall 123|4",
            "wall 1 1|2", "wall 1 |;", "feed 123|4", "feed 1| ", "load |x", "|load", "pass 12|.", "take 1|1",
            "light 1|2", "|fuel w", "fuel | 1", "price | 1", "load | 1", "wall | 1", "take |;", "pass |;",
            "wall 1 | 1"
        };
        for (String text : texts) {
            String plain = text.replace("|", "");
            errorAt(text.startsWith("|") ? plain.length() : text.indexOf('|'), plain);
        }
        // A full buffer that could go on beyond its 60 characters is a proper prefix too.
        errorAt(60, "out;".repeat(15));
        errorAt(59, "out;".repeat(14) + "out.");
    }

    private static void errorAt(int position, String text) {
        RingKiln kiln = new RingKiln();
        refused(ARGUMENT, () -> Kilns.run(kiln, text));
        due(text + " " + position, text + " " + kiln.errorPosition());
    }

    private static boolean isWhole(String text) {
        return text.matches("(.*;)?(load . .+|take .|light .|out|draught .|(fuel|price) . .+|(feed|pass) .+"
                + "|wall .+ .)");
    }

    private static void undo() {
        says(TERMS, "The changing methods are load, unload, light, quench, setDraught, addFuel, setPrice, feed, "
                + "passHours, buildWall and run.");
        RingKiln kiln = Kilns.stocked();
        kiln.save();
        kiln.restore();
        kiln.addFuel('c', 9);
        kiln.feed(64);
        kiln.load(0, 1);
        kiln.light(0);
        kiln.quench();
        kiln.setDraught(5);
        kiln.setPrice('c', 3);
        kiln.passHours(1);
        for (int left = 7; left >= 0; left--) due(left, kiln.undo());
        kiln.buildWall(2, 1);
        Kilns.run(kiln, "pass 1");
        due("1 0", kiln.undo() + " " + kiln.undo());
        Kilns.run(kiln, "fuel o 9;feed 99;load 3 9;light 3;pass 6;pass 48");
        kiln.unload(3);
        due("1 0", kiln.undo() + " " + kiln.undo());
        refused(STATE, kiln::undo);
        Kilns.stateOf(kiln);
        kiln.writeRing();
        kiln.writeFirstCourse(2);
        kiln.append('x');
        kiln.save();
        refused(STATE, kiln::undo);
        says(TERMS, "Each successful call of them can be undone, also if nothing is different after it; at most "
                + "the 8 most recent ones, the most recent one first.");
        RingKiln same = new RingKiln();
        same.setDraught(1);
        same.setPrice('w', 1);
        due("1 0", same.undo() + " " + same.undo());
        RingKiln many = new RingKiln();
        for (int hours = 1; hours <= 8; hours++) many.passHours(hours);
        for (int hours = 8; hours >= 1; hours--) {
            due(hours - 1, many.undo());
            due(hours * (hours - 1) / 2, many.time());
        }
        refused(STATE, many::undo);
        for (int hours = 1; hours <= 9; hours++) many.passHours(hours);
        for (int left = 7; left >= 0; left--) due(left, many.undo());
        refused(STATE, many::undo);
        due(1, many.time());
        for (int calls = 0; calls < 30; calls++) many.passHours(1);
        for (int left = 7; left >= 0; left--) due(left, many.undo());
        due(23, many.time());
    }

    private static void whatUndoConcerns() {
        says(TERMS, "Undo, save and restore concern the whole state except the text buffer, the error position, "
                + "the failed command and the output line.");
        RingKiln kiln = ExceptionSentences.busy();
        String before = Kilns.stateOf(kiln);
        kiln.save();
        Kilns.run(kiln, "s 3;fuel w 50;draught 0;price c 9;load 4 4;pass 30");
        String after = Kilns.stateOf(kiln);
        due(false, before.equals(after));
        refused(ARGUMENT, () -> Kilns.run(kiln, "take 99"));
        refused(UNSUPPORTED, () -> Kilns.run(kiln, "pass 1;pass 1;take 9"));
        kiln.writeFirstCourse(9);
        kiln.append('o');
        kiln.undo();
        due(before + "6 2 \"2223\"", Kilns.allOf(kiln));
        kiln.append('u');
        kiln.restore();
        due(before + "6 2 \"2223\"", Kilns.allOf(kiln));
        kiln.append('t');
        due(1, kiln.run());
        due(false, kiln.isLit());
    }
}
