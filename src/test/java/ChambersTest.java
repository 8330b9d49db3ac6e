/** Promises 1 to 7, 12 to 24 and 39 to 40: the chambers, the fire and what is told of them. */
public final class ChambersTest {
    private static final Class<IndexOutOfBoundsException> INDEX = IndexOutOfBoundsException.class;
    private static final Class<IllegalArgumentException> ARGUMENT = IllegalArgumentException.class;
    private static final Class<IllegalStateException> STATE = IllegalStateException.class;
    private static final Class<UnsupportedOperationException> UNSUPPORTED = UnsupportedOperationException.class;
    private static final Class<java.util.NoSuchElementException> MISSING = java.util.NoSuchElementException.class;

    private ChambersTest() {
    }

    public static void main(String[] args) {
        newObject();
        load();
        unload();
        light();
        quench();
        setDraught();
        hourOfHeating();
        hourWithoutHeat();
        hourOfCooling();
        preheating();
        fireMovesOn();
        firingTemperature();
        passHours();
        chamberQueries();
        ranks();
        chambersIn();
        predictions();
        coolingPredictions();
        shares();
        Check.finish();
    }

    private static void newObject() {
        Check.topic("promise 1, a new object");
        RingKiln kiln = new RingKiln();
        for (int i = 0; i < 8; i++) {
            Check.due('e', kiln.state(i));
            Check.due(0, kiln.bricks(i));
            Check.due(20, kiln.temperature(i));
        }
        for (char kind : "wco".toCharArray()) {
            Check.due(0, kiln.fuel(kind));
        }
        Check.due(1, kiln.price('w'));
        Check.due(3, kiln.price('c'));
        Check.due(5, kiln.price('o'));
        Check.due(0, kiln.time());
        Check.due(false, kiln.isLit());
        Check.due(0, kiln.heat());
        Check.due(1, kiln.draught());
        Check.due(0, kiln.stock());
        Check.due(0, kiln.walls());
        Check.due(0, kiln.paidTotal());
        Check.refused(INDEX, () -> kiln.outputAt(0));
        Check.refused(STATE, () -> kiln.undo());
    }

    private static void load() {
        Check.topic("promise 2, load");
        RingKiln kiln = Kilns.heated();
        Check.due(1, kiln.load(0, 1));
        Check.due(2, kiln.load(7, 60));
        Check.due('g', kiln.state(0));
        Check.due(1, kiln.bricks(0));
        Check.due(60, kiln.bricks(7));
        Check.refused(INDEX, () -> kiln.load(-1, 0));
        Check.refused(INDEX, () -> kiln.load(8, 61));
        Check.refused(ARGUMENT, () -> kiln.load(1, 0));
        Check.refused(ARGUMENT, () -> kiln.load(1, 61));
        Check.refused(ARGUMENT, () -> kiln.load(0, 61));
        Check.refused(STATE, () -> kiln.load(0, 5));
        Check.due(1, kiln.bricks(0));
        kiln.light(0);
        kiln.passHours(1);
        Check.due(60, kiln.temperature(1));
        Check.due(3, kiln.load(1, 10));
        kiln.undo();
        kiln.passHours(1);
        Check.due(100, kiln.temperature(1));
        Check.refused(UNSUPPORTED, () -> kiln.load(1, 10));
        Check.refused(ARGUMENT, () -> kiln.load(1, 0));
        Check.refused(STATE, () -> kiln.load(0, 10));
        kiln.quench();
        // 100, 92, 85, 79, 74, 69, 65, 61, 57: each time without a tenth of what exceeds 20.
        kiln.passHours(7);
        Check.due(61, kiln.temperature(1));
        Check.refused(UNSUPPORTED, () -> kiln.load(1, 10));
        Check.due('e', kiln.state(1));
        kiln.passHours(1);
        Check.due(57, kiln.temperature(1));
        Check.due(3, kiln.load(1, 10));
    }

    private static void unload() {
        Check.topic("promise 3, unload");
        RingKiln kiln = Kilns.heated();
        kiln.setDraught(5);
        kiln.load(0, 20);
        kiln.load(1, 15);
        Check.refused(INDEX, () -> kiln.unload(-1));
        Check.refused(INDEX, () -> kiln.unload(8));
        Check.refused(STATE, () -> kiln.unload(0));
        Check.refused(STATE, () -> kiln.unload(2));
        kiln.light(0);
        kiln.passHours(11);
        Check.due('f', kiln.state(0));
        Check.due('f', kiln.state(1));
        Check.refused(UNSUPPORTED, () -> kiln.unload(0));
        for (int hour = 0; kiln.temperature(1) > 60 && hour < 48; hour++) {
            Check.refused(UNSUPPORTED, () -> kiln.unload(1));
            kiln.passHours(1);
        }
        Check.due(0, kiln.stock());
        Check.due(20, kiln.unload(0));
        Check.due(35, kiln.unload(1));
        Check.due('e', kiln.state(0));
        Check.due(0, kiln.bricks(0));
        Check.due(35, kiln.stock());
        Check.refused(STATE, () -> kiln.unload(0));
        Check.due(1, kiln.load(0, 3));
    }

    private static void light() {
        Check.topic("promise 4, light");
        RingKiln kiln = Kilns.heated();
        kiln.load(3, 5);
        kiln.load(4, 5);
        Check.refused(INDEX, () -> kiln.light(-1));
        Check.refused(INDEX, () -> kiln.light(8));
        Check.refused(UNSUPPORTED, () -> kiln.light(0));
        Check.due(false, kiln.isLit());
        Check.due(408, kiln.light(3));
        Check.due(true, kiln.isLit());
        Check.due(3, kiln.fireChamber());
        Check.refused(STATE, () -> kiln.light(4));
        Check.refused(STATE, () -> kiln.light(0));
        Check.refused(INDEX, () -> kiln.light(8));
        Check.due(3, kiln.fireChamber());
        kiln.passHours(11);
        Check.due('f', kiln.state(4));
        Check.refused(UNSUPPORTED, () -> kiln.light(4));
        RingKiln cold = new RingKiln();
        cold.load(0, 1);
        Check.due(0, cold.light(0));
        Check.due(true, cold.isLit());
    }

    private static void quench() {
        Check.topic("promise 5, quench");
        RingKiln kiln = Kilns.heated();
        Check.refused(STATE, () -> kiln.quench());
        kiln.load(6, 5);
        kiln.light(6);
        kiln.passHours(1);
        Check.due(6, kiln.quench());
        Check.due(false, kiln.isLit());
        Check.due(398, kiln.heat());
        Check.due('g', kiln.state(6));
        Check.refused(STATE, () -> kiln.quench());
    }

    private static void setDraught() {
        Check.topic("promises 6 and 16, draught");
        RingKiln kiln = new RingKiln();
        Check.due(1, kiln.setDraught(5));
        Check.due(5, kiln.draught());
        Check.due(5, kiln.setDraught(0));
        Check.refused(ARGUMENT, () -> kiln.setDraught(-1));
        Check.refused(ARGUMENT, () -> kiln.setDraught(6));
        Check.due(0, kiln.draught());
    }

    private static void hourOfHeating() {
        Check.topic("one hour, heating");
        RingKiln kiln = Kilns.heated();
        kiln.load(7, 5);
        kiln.light(7);
        Check.due(0, kiln.passHours(1));
        Check.due(1, kiln.time());
        Check.due(398, kiln.heat());
        Check.due("60 20 20 20 20 20 20 170", Kilns.temperatures(kiln));
        kiln.passHours(1);
        Check.due("100 20 20 20 20 20 20 320", Kilns.temperatures(kiln));
        kiln.passHours(3);
        Check.due("220 20 20 20 20 20 20 770", Kilns.temperatures(kiln));
        Check.due('g', kiln.state(7));
        Check.due(5, kiln.passHours(1));
        Check.due("260 20 20 20 20 20 20 920", Kilns.temperatures(kiln));
        Check.due('f', kiln.state(7));
        Check.due(false, kiln.isLit());
        Check.due(348, kiln.heat());
        Check.due(6, kiln.time());
    }

    private static void hourWithoutHeat() {
        Check.topic("one hour, a store that runs empty");
        RingKiln kiln = new RingKiln();
        kiln.addFuel('w', 10);
        kiln.feed(18);
        kiln.load(0, 5);
        Check.due(18, kiln.light(0));
        kiln.passHours(1);
        Check.due(8, kiln.heat());
        Check.due(true, kiln.isLit());
        Check.due("170 60 20 20 20 20 20 20", Kilns.temperatures(kiln));
        kiln.passHours(1);
        Check.due(false, kiln.isLit());
        Check.due(8, kiln.heat());
        // Without the fire both cool at once: by a tenth of 150 and of 40.
        Check.due("155 56 20 20 20 20 20 20", Kilns.temperatures(kiln));
        RingKiln even = new RingKiln();
        even.addFuel('c', 1);
        even.addFuel('o', 1);
        even.feed(20);
        even.load(0, 5);
        even.light(0);
        even.passHours(2);
        Check.due(true, even.isLit());
        Check.due(0, even.heat());
        Check.due(320, even.temperature(0));
        even.passHours(1);
        Check.due(false, even.isLit());
        RingKiln just = new RingKiln();
        just.addFuel('w', 4);
        just.addFuel('c', 1);
        just.setPrice('c', 20);
        just.feed(9);
        just.load(0, 5);
        just.light(0);
        just.passHours(1);
        Check.due(false, just.isLit());
        Check.due(9, just.heat());
        Check.due("20 20 20 20 20 20 20 20", Kilns.temperatures(just));
        just.undo();
        just.undo();
        just.feed(1);
        just.light(0);
        just.passHours(1);
        Check.due(2, just.heat());
        Check.due(true, just.isLit());
    }

    private static void hourOfCooling() {
        Check.topic("one hour, cooling by the draught");
        int[] after = {448, 425, 403, 380, 358, 335};
        for (int draught = 0; draught <= 5; draught++) {
            RingKiln kiln = Kilns.heated();
            kiln.load(0, 5);
            kiln.light(0);
            kiln.passHours(3);
            kiln.quench();
            Check.due(470, kiln.temperature(0));
            kiln.setDraught(draught);
            kiln.passHours(1);
            Check.due(after[draught], kiln.temperature(0));
        }
        RingKiln kiln = Kilns.heated();
        kiln.load(0, 5);
        kiln.load(3, 5);
        kiln.light(0);
        kiln.passHours(3);
        kiln.quench();
        kiln.light(3);
        kiln.passHours(1);
        // What does not burn cools while the fire burns elsewhere.
        Check.due("425 128 20 170 60 20 20 20", Kilns.temperatures(kiln));
    }

    private static void preheating() {
        Check.topic("one hour, the next chamber is preheated");
        RingKiln kiln = Kilns.heated();
        kiln.load(0, 5);
        kiln.load(1, 5);
        kiln.light(1);
        kiln.passHours(3);
        kiln.quench();
        kiln.light(0);
        kiln.passHours(1);
        Check.due("170 500 128 20 20 20 20 20", Kilns.temperatures(kiln));
        kiln.passHours(1);
        Check.due(500, kiln.temperature(1));
        kiln.undo();
        kiln.undo();
        kiln.undo();
        kiln.undo();
        kiln.passHours(1);
        kiln.quench();
        kiln.light(0);
        kiln.passHours(1);
        // 620 is above what preheating reaches: it neither rises nor cools beside the fire.
        Check.due("170 620 164 20 20 20 20 20", Kilns.temperatures(kiln));
        kiln.quench();
        kiln.light(1);
        // It enters the fire at 620 and is at 920 after two hours.
        Check.due(5, kiln.passHours(2));
        Check.due('f', kiln.state(1));
    }

    private static void fireMovesOn() {
        Check.topic("one hour, the fire moves on");
        RingKiln kiln = Kilns.heated();
        kiln.load(7, 5);
        kiln.load(0, 7);
        kiln.light(7);
        Check.due(5, kiln.passHours(6));
        Check.due(true, kiln.isLit());
        Check.due(0, kiln.fireChamber());
        Check.due(0, kiln.passHours(1));
        Check.due("410 60 20 20 20 20 20 830", Kilns.temperatures(kiln));
        Check.due(0, kiln.passHours(3));
        Check.due(7, kiln.passHours(1));
        Check.due(1010, kiln.temperature(0));
        Check.due(220, kiln.temperature(1));
        Check.due(false, kiln.isLit());
        Check.due(298, kiln.heat());
        // A fired chamber does not take the fire, so the fire that meets one goes out.
        RingKiln met = Kilns.heated();
        met.load(1, 5);
        met.light(1);
        met.passHours(6);
        met.load(0, 5);
        met.light(0);
        met.passHours(6);
        Check.due('f', met.state(0));
        Check.due(false, met.isLit());
    }

    private static void firingTemperature() {
        Check.topic("one hour, bricks are fired from 900 degrees on");
        RingKiln kiln = Kilns.heated();
        kiln.setDraught(0);
        kiln.load(0, 5);
        kiln.light(0);
        kiln.passHours(1);
        kiln.quench();
        // 170, 163, 156, 150: each time without a twentieth of what exceeds 20.
        kiln.passHours(3);
        kiln.light(0);
        Check.due(0, kiln.passHours(4));
        Check.due(750, kiln.temperature(0));
        Check.due(5, kiln.passHours(1));
        Check.due(900, kiln.temperature(0));
        Check.due('f', kiln.state(0));
        RingKiln below = Kilns.heated();
        below.load(0, 5);
        below.light(0);
        below.passHours(5);
        below.quench();
        below.passHours(17);
        Check.due(149, below.temperature(0));
        below.light(0);
        Check.due(0, below.passHours(5));
        Check.due(899, below.temperature(0));
        Check.due('g', below.state(0));
        Check.due(0, below.fireChamber());
        Check.due(5, below.passHours(1));
        Check.due(1049, below.temperature(0));
    }

    private static void passHours() {
        Check.topic("promises 7 and 12, passHours and time");
        RingKiln kiln = new RingKiln();
        Check.refused(ARGUMENT, () -> kiln.passHours(0));
        Check.refused(ARGUMENT, () -> kiln.passHours(-1));
        Check.refused(ARGUMENT, () -> kiln.passHours(49));
        Check.due(0, kiln.time());
        Check.due(0, kiln.passHours(48));
        Check.due(48, kiln.time());
        Check.due(0, kiln.passHours(1));
        Check.due(49, kiln.time());
        RingKiln full = Kilns.heated();
        full.addFuel('o', 5);
        full.feed(60);
        for (int i = 0; i < 8; i++) {
            full.load(i, 10 + i);
        }
        full.light(2);
        // The first chamber takes 6 hours, each other one 5.
        Check.due(12 + 13 + 14 + 15 + 16 + 17 + 10, full.passHours(40));
        Check.due(1, full.fireChamber());
        Check.due(11, full.passHours(2));
        Check.due(false, full.isLit());
    }

    private static void chamberQueries() {
        Check.topic("promises 13 to 15 and 17 to 19, queries");
        RingKiln kiln = Kilns.heated();
        Check.due(false, kiln.isLit());
        Check.refused(MISSING, () -> kiln.fireChamber());
        Check.due(408, kiln.heat());
        kiln.load(5, 33);
        kiln.light(5);
        Check.due(true, kiln.isLit());
        Check.due(5, kiln.fireChamber());
        Check.due('g', kiln.state(5));
        Check.due(33, kiln.bricks(5));
        kiln.passHours(6);
        Check.due('f', kiln.state(5));
        Check.due(33, kiln.bricks(5));
        Check.due(920, kiln.temperature(5));
        Check.due(260, kiln.temperature(6));
        Check.refused(MISSING, () -> kiln.fireChamber());
        for (int chamber : new int[] {-1, 8, Integer.MIN_VALUE, Integer.MAX_VALUE}) {
            Check.refused(INDEX, () -> kiln.state(chamber));
            Check.refused(INDEX, () -> kiln.bricks(chamber));
            Check.refused(INDEX, () -> kiln.temperature(chamber));
        }
    }

    private static void ranks() {
        Check.topic("promise 20, chamberAtRank");
        RingKiln kiln = Kilns.heated();
        kiln.load(2, 10);
        kiln.load(4, 30);
        kiln.load(5, 30);
        kiln.load(6, 60);
        kiln.light(2);
        kiln.passHours(1);
        int[] due = {2, 3, 6, 4, 5, 0, 1, 7};
        for (int rank = 0; rank < 8; rank++) {
            Check.due(due[rank], kiln.chamberAtRank(rank));
        }
        Check.refused(MISSING, () -> kiln.chamberAtRank(-1));
        Check.refused(MISSING, () -> kiln.chamberAtRank(8));
    }

    private static void chambersIn() {
        Check.topic("promise 21, chambersIn");
        RingKiln kiln = Kilns.heated();
        kiln.load(0, 1);
        kiln.load(2, 1);
        kiln.load(4, 1);
        kiln.light(0);
        kiln.passHours(6);
        Check.due(5, kiln.chambersIn('e'));
        Check.due(2, kiln.chambersIn('g'));
        Check.due(1, kiln.chambersIn('f'));
        for (char state : "xEG \0".toCharArray()) {
            Check.refused(ARGUMENT, () -> kiln.chambersIn(state));
        }
    }

    private static void predictions() {
        Check.topic("promises 22 and 24, hoursUntilOut and firedIn");
        RingKiln kiln = Kilns.heated();
        Check.due(0, kiln.hoursUntilOut());
        Check.due(0, kiln.firedIn(100));
        kiln.load(7, 5);
        kiln.load(0, 7);
        kiln.light(7);
        Check.due(11, kiln.hoursUntilOut());
        Check.due(0, kiln.firedIn(0));
        Check.due(0, kiln.firedIn(5));
        Check.due(5, kiln.firedIn(6));
        Check.due(5, kiln.firedIn(10));
        Check.due(12, kiln.firedIn(11));
        Check.due(12, kiln.firedIn(100));
        Check.refused(ARGUMENT, () -> kiln.firedIn(-1));
        Check.refused(ARGUMENT, () -> kiln.firedIn(101));
        Check.due(0, kiln.time());
        Check.due('g', kiln.state(7));
        Check.due(408, kiln.heat());
        Check.due("20 20 20 20 20 20 20 20", Kilns.temperatures(kiln));
        kiln.passHours(10);
        Check.due(1, kiln.hoursUntilOut());
        kiln.passHours(1);
        Check.due(0, kiln.hoursUntilOut());
        RingKiln poor = new RingKiln();
        poor.load(0, 5);
        poor.light(0);
        Check.due(1, poor.hoursUntilOut());
        Check.due(true, poor.isLit());
    }

    private static void coolingPredictions() {
        Check.topic("promise 23, hoursUntilCool");
        RingKiln kiln = Kilns.heated();
        kiln.load(0, 5);
        kiln.light(0);
        kiln.passHours(1);
        Check.due(0, kiln.hoursUntilCool(1));
        kiln.passHours(1);
        Check.due("320 100 20 20 20 20 20 20", Kilns.temperatures(kiln));
        kiln.quench();
        Check.due(8, kiln.hoursUntilCool(1));
        Check.due(0, kiln.hoursUntilCool(2));
        Check.refused(INDEX, () -> kiln.hoursUntilCool(-1));
        Check.refused(INDEX, () -> kiln.hoursUntilCool(8));
        kiln.passHours(7);
        Check.due(1, kiln.hoursUntilCool(1));
        kiln.passHours(1);
        Check.due(0, kiln.hoursUntilCool(1));
        Check.due(10, kiln.time());
        // It counts the hours to the first time, also if the fire comes to the chamber afterwards.
        RingKiln later = Kilns.heated();
        later.load(0, 5);
        later.load(1, 5);
        later.load(2, 5);
        later.setDraught(5);
        later.light(2);
        later.passHours(1);
        later.quench();
        later.light(0);
        // 170, 125, 94, 72, 57, while the fire is in chamber 0.
        Check.due(4, later.hoursUntilCool(2));
    }

    private static void shares() {
        Check.topic("promises 39 and 40, meanTemperature and firedShare");
        RingKiln kiln = Kilns.heated();
        Check.due(20.0, kiln.meanTemperature());
        Check.refused(ArithmeticException.class, () -> kiln.firedShare());
        kiln.load(0, 10);
        Check.due(0.0f, kiln.firedShare());
        kiln.load(2, 20);
        kiln.light(0);
        kiln.passHours(1);
        Check.due((170 + 60 + 6 * 20) / 8.0, kiln.meanTemperature());
        kiln.passHours(5);
        Check.due((920 + 260 + 6 * 20) / 8.0, kiln.meanTemperature());
        Check.due(10.0f / 30.0f, kiln.firedShare());
        // Bricks that left the chamber still count as fired, and as loaded.
        kiln.setDraught(5);
        kiln.passHours(48);
        kiln.unload(0);
        Check.due(10.0f / 30.0f, kiln.firedShare());
        kiln.load(0, 40);
        Check.due(10.0f / 70.0f, kiln.firedShare());
    }
}
