/** Promises 42 to 51: programs, output, undo and snapshot. */
public final class ProgramsTest {
    private static final Class<IndexOutOfBoundsException> INDEX = IndexOutOfBoundsException.class;
    private static final Class<IllegalArgumentException> ARGUMENT = IllegalArgumentException.class;
    private static final Class<IllegalStateException> STATE = IllegalStateException.class;
    private static final Class<UnsupportedOperationException> UNSUPPORTED = UnsupportedOperationException.class;
    private static final Class<java.util.NoSuchElementException> MISSING = java.util.NoSuchElementException.class;

    private ProgramsTest() {
    }

    public static void main(String[] args) {
        append();
        commands();
        programs();
        errorPositions();
        failures();
        ring();
        firstCourse();
        undoing();
        undoOfEveryCall();
        whatUndoLeaves();
        snapshot();
        Check.finish();
    }

    private static String lineOf(RingKiln kiln, int length) {
        StringBuilder text = new StringBuilder();
        for (int i = 0; i < length; i++) {
            text.append(kiln.outputAt(i));
        }
        Check.refused(INDEX, () -> kiln.outputAt(length));
        return text.toString();
    }

    private static String ringOf(RingKiln kiln) {
        return lineOf(kiln, kiln.writeRing());
    }

    private static void append() {
        Check.topic("promise 42, append");
        RingKiln kiln = new RingKiln();
        for (int i = 1; i <= 60; i++) {
            Check.due(i, kiln.append(i % 2 == 0 ? '\0' : '\uffff'));
        }
        Check.refused(STATE, () -> kiln.append('x'));
        Check.refused(ARGUMENT, () -> kiln.run());
        Check.due(0, kiln.errorPosition());
        Check.due(1, kiln.append('x'));
    }

    private static void commands() {
        Check.topic("promise 43, each command");
        RingKiln kiln = new RingKiln();
        Check.due(1, Kilns.run(kiln, "load 7 060"));
        Check.due("e:20 e:20 e:20 e:20 e:20 e:20 e:20 g60:20", ringOf(kiln));
        Check.due(3, Kilns.run(kiln, "fuel w 9;fuel c 010;fuel o 50"));
        Check.due("9 10 50", kiln.fuel('w') + " " + kiln.fuel('c') + " " + kiln.fuel('o'));
        Check.due(3, Kilns.run(kiln, "price w 20;price c 07;price o 1"));
        Check.due("20 7 1", kiln.price('w') + " " + kiln.price('c') + " " + kiln.price('o'));
        Check.due(1, Kilns.run(kiln, "feed 100"));
        Check.due(108, kiln.heat());
        Check.due(41, kiln.fuel('o'));
        Check.due(1, Kilns.run(kiln, "light 7"));
        Check.due(7, kiln.fireChamber());
        Check.due(1, Kilns.run(kiln, "out"));
        Check.due(false, kiln.isLit());
        Check.due(1, Kilns.run(kiln, "draught 5"));
        Check.due(5, kiln.draught());
        Check.due(3, Kilns.run(kiln, "light 7;pass 6;pass 048"));
        Check.due(54, kiln.time());
        Check.due('f', kiln.state(7));
        Check.due(1, Kilns.run(kiln, "take 7"));
        Check.due(60, kiln.stock());
        Check.due(1, Kilns.run(kiln, "wall 18 8"));
        Check.due(8, kiln.stock());
        Check.due(2, Kilns.run(kiln, "wall 003 2;wall 2 1"));
        Check.due(5, kiln.stock());
        Check.due(3, kiln.walls());
    }

    private static void programs() {
        Check.topic("promise 43, run");
        RingKiln kiln = new RingKiln();
        kiln.addFuel('o', 2);
        kiln.feed(20);
        Check.due(4, Kilns.run(kiln, "load 5 30;light 5;pass 2;out"));
        Check.due(320, kiln.temperature(5));
        Check.refused(STATE, () -> kiln.quench());
        Check.due(2, kiln.time());
        Check.due(1, kiln.append('x'));
        String draughts = "draught 2;".repeat(5);
        Check.due(60, (draughts + "fuel w 001").length());
        RingKiln full = new RingKiln();
        Check.due(6, Kilns.run(full, draughts + "fuel w 001"));
        Check.due(2, full.draught());
        Check.due(1, full.fuel('w'));
        RingKiln fires = new RingKiln();
        // The most commands that the buffer can hold are 15; all but the first one fail here.
        fires.load(0, 1);
        fires.light(0);
        Check.refused(UNSUPPORTED, () -> Kilns.run(fires, "out;".repeat(14) + "out"));
        Check.due(1, fires.failedCommand());
        Check.refused(ARGUMENT, () -> Kilns.run(fires, "out;".repeat(15)));
        Check.due(60, fires.errorPosition());
        Check.due(true, fires.isLit());
    }

    private static void errorPositions() {
        Check.topic("promise 44, errorPosition");
        RingKiln kiln = new RingKiln();
        Check.refused(MISSING, () -> kiln.errorPosition());
        Check.due(1, Kilns.run(kiln, "pass 1"));
        Check.refused(MISSING, () -> kiln.errorPosition());
        // In each row: a text, and behind the bar its error position.
        String[] rows = {
            "|0", "x|0", ";|0", " out|0", "Load 1 1|0", "l|1", "lx|1", "lo|2", "lix|2", "load|4", "load1|4",
            "load |5", "load x|5", "load 1|6", "load 12|6", "load 1;|6", "load 1 |7", "load 1 x|7",
            "load 1 \u0661|7", "load 1 1234|10", "load 1 12 |9", "load 1 1;|9", "load 1 1;;|9", "load 1 1;lx|10",
            "take 12|6", "take :|5", "take /|5", "light a|6", "ou|2", "oux|2", "outx|3", "out |3", "out;|4",
            "out;out;|8", "out;o x|5", "out,out|3", "draught -1|8", "draught 10|9", "fuel|4", "fuel x|5",
            "fuel w|6", "fuel wc|6", "fuel w |7", "fuel w;|6", "fe|2", "fex|2", "fux|2", "price o 1234|11",
            "price W 1|6", "pax|2", "pas1|3", "pass |5", "pass ;|5", "feed 2001|8", "feed 20 |7", "wall 5|6",
            "wall 5;|6", "wall 5 |7", "wall 5 12|8", "wall 1234 1|8", "wall 123|8", "wall  1|5", "wall 5 x|7"
        };
        for (String row : rows) {
            int bar = row.indexOf('|');
            RingKiln other = new RingKiln();
            Check.topic("promise 44, errorPosition of \"" + row.substring(0, bar) + "\"");
            Check.refused(ARGUMENT, () -> Kilns.run(other, row.substring(0, bar)));
            Check.due(row.substring(bar + 1), other.errorPosition());
            Check.due(0, other.time());
        }
        Check.refused(ARGUMENT, () -> Kilns.run(kiln, "draught"));
        Check.due(1, kiln.time());
        Check.due(1, Kilns.run(kiln, "draught 0"));
        Check.due(7, kiln.errorPosition());
        Check.refused(MISSING, () -> kiln.failedCommand());
    }

    private static void failures() {
        Check.topic("promises 43 and 45, a command that fails");
        RingKiln kiln = new RingKiln();
        Check.refused(MISSING, () -> kiln.failedCommand());
        kiln.setDraught(3);
        Check.refused(UNSUPPORTED, () -> Kilns.run(kiln, "load 0 5;fuel w 50;fuel w 50;pass 1"));
        Check.due(2, kiln.failedCommand());
        Check.due('e', kiln.state(0));
        Check.due(0, kiln.fuel('w'));
        Check.due(0, kiln.brickTotalByAccounts());
        Check.due(0, kiln.time());
        Check.due(1, kiln.append('o'));
        Check.refused(ARGUMENT, () -> kiln.run());
        Check.due(2, kiln.failedCommand());
        Check.refused(MISSING, () -> new RingKiln().errorPosition());
        String[] wrong = {
            "load 8 1", "load 0 0", "load 0 61", "load 0 061", "take 0", "take 8", "light 0", "light 9", "out",
            "draught 6", "fuel w 0", "fuel c 51", "price w 0", "price o 21", "feed 0", "feed 201", "feed 1",
            "pass 0", "pass 49", "pass 999", "wall 1 1", "wall 19 1", "wall 4 0", "wall 4 9", "wall 4 2", "wall 2 1"
        };
        for (String command : wrong) {
            RingKiln other = new RingKiln();
            Check.topic("promise 45, failedCommand of \"" + command + "\"");
            Check.refused(UNSUPPORTED, () -> Kilns.run(other, command));
            Check.due(0, other.failedCommand());
            Check.refused(UNSUPPORTED, () -> Kilns.run(other, "pass 3;" + command + ";pass 3"));
            Check.due(1, other.failedCommand());
            Check.due(0, other.time());
        }
        Check.refused(UNSUPPORTED, () -> Kilns.run(kiln, "pass 3;out;pass 3"));
        Check.due(0, kiln.time());
        Check.due(1, kiln.errorPosition());
        Check.due(1, Kilns.run(kiln, "pass 1"));
        Check.due(1, kiln.failedCommand());
        // Neither the failures nor the texts that are no programs can be undone.
        Check.due(1, kiln.undo());
        Check.due(0, kiln.undo());
        Check.due(1, kiln.draught());
        Check.refused(STATE, () -> kiln.undo());
    }

    private static void ring() {
        Check.topic("promises 46 and 48, writeRing and outputAt");
        RingKiln kiln = new RingKiln();
        Check.refused(INDEX, () -> kiln.outputAt(0));
        Check.due(39, kiln.writeRing());
        Check.due("e:20 e:20 e:20 e:20 e:20 e:20 e:20 e:20", ringOf(kiln));
        Kilns.run(kiln, "fuel o 25;feed 120;load 7 20;load 0 5;light 7;pass 6");
        Check.due("g5:260* e:20 e:20 e:20 e:20 e:20 e:20 f20:920", ringOf(kiln));
        Kilns.run(kiln, "pass 5");
        Check.due("f5:1010 e:220 e:20 e:20 e:20 e:20 e:20 f20:553", ringOf(kiln));
        // The line is what was written last, whatever happens to the kiln.
        kiln.passHours(48);
        Check.due('1', kiln.outputAt(3));
        Check.refused(INDEX, () -> kiln.outputAt(-1));
        Check.refused(INDEX, () -> kiln.outputAt(48));
        Check.refused(INDEX, () -> kiln.outputAt(Integer.MAX_VALUE));
        Check.refused(INDEX, () -> kiln.outputAt(Integer.MIN_VALUE));
    }

    private static void firstCourse() {
        Check.topic("promise 47, writeFirstCourse");
        RingKiln kiln = new RingKiln();
        String[] due = {"2", "3", "22", "23", "222", "223", "2222", "2223", "22222", "22223"};
        for (int width = 2; width <= 11; width++) {
            Check.due(due[width - 2], lineOf(kiln, kiln.writeFirstCourse(width)));
        }
        Check.due("22222223", lineOf(kiln, kiln.writeFirstCourse(17)));
        Check.due("222222222", lineOf(kiln, kiln.writeFirstCourse(18)));
        Check.due(1, kiln.writeFirstCourse(3));
        Check.refused(ARGUMENT, () -> kiln.writeFirstCourse(1));
        Check.refused(ARGUMENT, () -> kiln.writeFirstCourse(19));
        Check.due("3", lineOf(kiln, 1));
    }

    private static void undoing() {
        Check.topic("promise 49, undo");
        RingKiln kiln = new RingKiln();
        Check.refused(STATE, () -> kiln.undo());
        for (int i = 1; i <= 10; i++) {
            kiln.passHours(1);
        }
        for (int left = 7; left >= 4; left--) {
            Check.due(left, kiln.undo());
            Check.due(left - 1 + 3, kiln.time());
        }
        Check.due(6, kiln.time());
        kiln.passHours(10);
        Check.due(4, kiln.undo());
        Check.due(6, kiln.time());
        for (int left = 3; left >= 0; left--) {
            Check.due(left, kiln.undo());
            Check.due(left + 2, kiln.time());
        }
        Check.refused(STATE, () -> kiln.undo());
        Check.due(2, kiln.time());
        // A call after which nothing is different counts too; one that throws does not.
        kiln.setDraught(1);
        Check.refused(ARGUMENT, () -> kiln.setDraught(6));
        Check.refused(ARGUMENT, () -> kiln.passHours(0));
        kiln.setPrice('w', 1);
        Check.due(1, kiln.undo());
        Check.due(0, kiln.undo());
    }

    private static void undoOfEveryCall() {
        Check.topic("promise 49, undo of every call");
        RingKiln kiln = new RingKiln();
        kiln.addFuel('o', 20);
        kiln.setPrice('o', 7);
        kiln.feed(100);
        kiln.undo();
        Check.due("20 0 0", kiln.fuel('o') + " " + kiln.heat() + " " + kiln.paidTotal());
        kiln.undo();
        Check.due(5, kiln.price('o'));
        kiln.undo();
        Check.due(0, kiln.fuel('o'));
        kiln.addFuel('o', 20);
        kiln.feed(200);
        kiln.load(0, 30);
        kiln.undo();
        Check.due("e 0 0", kiln.state(0) + " " + kiln.bricks(0) + " " + kiln.brickTotalByAccounts());
        kiln.load(0, 30);
        kiln.light(0);
        kiln.undo();
        Check.due(false, kiln.isLit());
        kiln.light(0);
        kiln.quench();
        kiln.undo();
        Check.due(0, kiln.fireChamber());
        kiln.setDraught(5);
        kiln.undo();
        Check.due(1, kiln.draught());
        kiln.setDraught(5);
        kiln.passHours(6);
        kiln.undo();
        Check.due("g30:20* e:20 e:20 e:20 e:20 e:20 e:20 e:20", ringOf(kiln));
        Check.due("0 204 0.0", kiln.time() + " " + kiln.heat() + " " + kiln.firedShare());
        Check.due(true, kiln.isConsistent());
        kiln.passHours(48);
        kiln.unload(0);
        kiln.undo();
        Check.due("f 30 0", kiln.state(0) + " " + kiln.bricks(0) + " " + kiln.stock());
        kiln.unload(0);
        kiln.buildWall(9, 3);
        kiln.undo();
        Check.due("30 0 30", kiln.stock() + " " + kiln.walls() + " " + kiln.brickTotalByAccounts());
        Kilns.run(kiln, "wall 9 3;pass 5;load 3 3");
        Check.due("20 1", kiln.stock() + " " + kiln.walls());
        kiln.undo();
        Check.due("30 0 e 48", kiln.stock() + " " + kiln.walls() + " " + kiln.state(3) + " " + kiln.time());
        kiln.undo();
        Check.due("f 30 0", kiln.state(0) + " " + kiln.bricks(0) + " " + kiln.stock());
    }

    private static void whatUndoLeaves() {
        Check.topic("promises 49 and 51, what undo and restore leave");
        RingKiln kiln = new RingKiln();
        kiln.save();
        kiln.passHours(1);
        Check.refused(ARGUMENT, () -> Kilns.run(kiln, "pass x"));
        Check.refused(UNSUPPORTED, () -> Kilns.run(kiln, "pass 1;out"));
        kiln.writeFirstCourse(5);
        kiln.append('p');
        kiln.undo();
        Check.due("5 1 23", kiln.errorPosition() + " " + kiln.failedCommand() + " " + lineOf(kiln, 2));
        Check.due(2, kiln.append('a'));
        kiln.restore();
        Check.due("5 1 23", kiln.errorPosition() + " " + kiln.failedCommand() + " " + lineOf(kiln, 2));
        Check.due(3, kiln.append('s'));
        Check.due(1, Kilns.run(kiln, "s 3"));
        Check.due(3, kiln.time());
        // Undo does not take back what was saved.
        kiln.save();
        kiln.undo();
        Check.due(0, kiln.time());
        kiln.restore();
        Check.due(3, kiln.time());
    }

    private static void snapshot() {
        Check.topic("promises 50 and 51, save and restore");
        RingKiln kiln = new RingKiln();
        Check.refused(STATE, () -> {
            kiln.restore();
            return "nothing";
        });
        Kilns.run(kiln, "fuel o 20;price c 9;draught 4;load 1 7;load 2 8;feed 99");
        Kilns.run(kiln, "light 1;pass 6");
        String ring = ringOf(kiln);
        kiln.save();
        Check.due(1, kiln.undo());
        kiln.passHours(10);
        kiln.setPrice('c', 1);
        kiln.setDraught(0);
        kiln.addFuel('w', 1);
        kiln.restore();
        Check.due(ring, ringOf(kiln));
        Check.due("e:20 f7:920 g8:260* e:20 e:20 e:20 e:20 e:20", ring);
        Check.due("6 4 9 0 11", kiln.time() + " " + kiln.draught() + " " + kiln.price('c') + " " + kiln.fuel('w')
                + " " + kiln.fuel('o'));
        Check.due("48 45 15", kiln.heat() + " " + kiln.paidTotal() + " " + kiln.brickTotalByAccounts());
        Check.due(7.0f / 15.0f, kiln.firedShare());
        Check.due(true, kiln.isConsistent());
        Check.refused(STATE, () -> kiln.undo());
        kiln.passHours(1);
        Check.due(0, kiln.undo());
        Check.due(6, kiln.time());
        // What was saved stays saved, and it does not change with the kiln.
        kiln.passHours(20);
        kiln.restore();
        Check.due(ring, ringOf(kiln));
        kiln.passHours(2);
        kiln.save();
        kiln.passHours(2);
        kiln.restore();
        Check.due(8, kiln.time());
    }
}
