/** Kilns in states that many tests start from, and all that can be told of a kiln. */
final class Kilns {
    private Kilns() {
    }

    /** Returns a kiln with some pieces of each fuel. */
    static RingKiln fuelled(int wood, int coal, int oil) {
        RingKiln kiln = new RingKiln();
        int[] pieces = {wood, coal, oil};
        for (int kind = 0; kind < 3; kind++) {
            for (int left = pieces[kind]; left > 0; left -= 50) {
                kiln.addFuel("wco".charAt(kind), Math.min(left, 50));
            }
        }
        return kiln;
    }

    static RingKiln priced(RingKiln kiln, int wood, int coal, int oil) {
        kiln.setPrice('w', wood);
        kiln.setPrice('c', coal);
        kiln.setPrice('o', oil);
        return kiln;
    }

    /** Returns a kiln without fuel and with 408 units of heat in the store. */
    static RingKiln heated() {
        RingKiln kiln = fuelled(0, 0, 34);
        kiln.feed(200);
        kiln.feed(200);
        return kiln;
    }

    /** Returns a kiln with exactly some units of heat in the store: all up to 999 but 1, 2, 4, 5, 7, 10 and 13. */
    static RingKiln withHeat(int units) {
        RingKiln kiln = priced(fuelled(0, 0, 80), 1, 1, 20);
        int left = units;
        for (; left >= 120; left -= 120) kiln.feed(120);
        int coal = left * 2 % 3;
        feedAll(kiln, 'c', coal, 8);
        feedAll(kiln, 'w', (left - 8 * coal) / 3, 3);
        return kiln;
    }

    private static void feedAll(RingKiln kiln, char kind, int pieces, int heatOfOne) {
        if (pieces > 0) {
            kiln.addFuel(kind, pieces);
            kiln.feed(pieces * heatOfOne);
        }
    }

    /** Returns a kiln with 60 bricks in the stock, at the hour 54. */
    static RingKiln stocked() {
        RingKiln kiln = fuelled(0, 0, 10);
        kiln.setDraught(5);
        kiln.feed(100);
        kiln.load(3, 60);
        kiln.light(3);
        kiln.passHours(6);
        kiln.passHours(48);
        kiln.unload(3);
        return kiln;
    }

    /** Lets an hour pass with each of the draughts. */
    static void coolBy(RingKiln kiln, int... draughts) {
        for (int draught : draughts) {
            kiln.setDraught(draught);
            kiln.passHours(1);
        }
    }

    static void type(RingKiln kiln, String text) {
        for (char character : text.toCharArray()) kiln.append(character);
    }

    static int run(RingKiln kiln, String text) {
        type(kiln, text);
        return kiln.run();
    }

    static String temperatures(RingKiln kiln) {
        StringBuilder text = new StringBuilder();
        for (int i = 0; i < 8; i++) text.append(i == 0 ? "" : " ").append(kiln.temperature(i));
        return text.toString();
    }

    /** Returns the output line as it stands, without writing it. */
    static String line(RingKiln kiln) {
        StringBuilder text = new StringBuilder();
        for (int i = 0; i < 1000; i++) {
            int index = i;
            String character = Check.outcome(() -> kiln.outputAt(index));
            if (character.startsWith("throws")) break;
            text.append(character);
        }
        return text.toString();
    }

    static String ring(RingKiln kiln) {
        kiln.writeRing();
        return line(kiln);
    }

    /** Tells the whole state that undo, save and restore concern. */
    static String stateOf(RingKiln kiln) {
        StringBuilder text = new StringBuilder();
        Check.Call[] calls = {
            kiln::time, kiln::isLit, kiln::fireChamber, kiln::heat, kiln::draught, kiln::hoursUntilOut, kiln::stock,
            kiln::walls, kiln::brickTotal, kiln::brickTotalByAccounts, kiln::paidTotal, kiln::meanTemperature,
            kiln::firedShare, kiln::isConsistent, () -> kiln.firedIn(1), () -> kiln.firedIn(100),
            () -> kiln.chambersIn('e'), () -> kiln.chambersIn('g'), () -> kiln.chambersIn('f'),
            () -> kiln.lowestCost(1), () -> kiln.lowestCost(200), () -> kiln.lowestCostByTrying(77)
        };
        for (Check.Call call : calls) text.append(Check.outcome(call)).append(' ');
        for (char kind : "wco".toCharArray()) {
            text.append(kiln.fuel(kind)).append(' ').append(kiln.price(kind)).append(' ');
            text.append(Check.outcome(() -> kiln.piecesInMixture(kind, 50))).append(' ');
        }
        for (int i = 0; i < 8; i++) {
            int chamber = i;
            text.append(kiln.state(i)).append(kiln.bricks(i)).append(':').append(kiln.temperature(i));
            text.append('#').append(kiln.chamberAtRank(i)).append(' ');
            text.append(Check.outcome(() -> kiln.hoursUntilCool(chamber))).append(' ');
        }
        return text.toString();
    }

    /** Tells the state and what undo, save and restore do not concern, but for the text buffer. */
    static String allOf(RingKiln kiln) {
        return stateOf(kiln) + Check.outcome(kiln::errorPosition) + " " + Check.outcome(kiln::failedCommand)
                + " \"" + line(kiln) + "\"";
    }

    /** Tells what a kiln remembers, by undoing, restoring and running it; it is used up by that. */
    static String memoryOf(RingKiln kiln) {
        StringBuilder text = new StringBuilder();
        text.append(Check.outcome(() -> kiln.append('1'))).append(' ');
        for (int i = 0; i < 10; i++) text.append(Check.outcome(kiln::undo)).append(' ').append(briefly(kiln));
        text.append(Check.outcome(() -> {
            kiln.restore();
            return briefly(kiln);
        }));
        text.append(Check.outcome(kiln::undo)).append(' ').append(Check.outcome(kiln::run)).append(' ');
        text.append(Check.outcome(kiln::errorPosition)).append(' ').append(Check.outcome(kiln::failedCommand));
        return text.append(' ').append(briefly(kiln)).toString();
    }

    /** Tells so little of a kiln that it can be asked often: nothing is promised after 512 calls. */
    static String briefly(RingKiln kiln) {
        StringBuilder text = new StringBuilder();
        Check.Call[] calls = {
            kiln::time, kiln::fireChamber, kiln::heat, kiln::draught, kiln::stock, kiln::brickTotal, kiln::paidTotal,
            kiln::meanTemperature, kiln::firedShare, () -> kiln.fuel('w'), () -> kiln.price('w'),
            () -> kiln.chambersIn('g')
        };
        for (Check.Call call : calls) text.append(Check.outcome(call)).append(' ');
        return text.append('\n').toString();
    }
}
