/** The sentences of the promises 42 to 51: programs, output, undo and snapshot. */
final class ProgramSentences extends Sentences {
    private ProgramSentences() {
    }

    static void ask() {
        append();
        run();
        runThatFails();
        errorPosition();
        failedCommand();
        writeRing();
        writeFirstCourse();
        outputAt();
        undo();
        save();
        restore();
    }

    private static void append() {
        says(42, "Appends a character to the text buffer.");
        RingKiln kiln = new RingKiln();
        kiln.append('p');
        Kilns.type(kiln, "ass 3");
        due("1 3", kiln.run() + " " + kiln.time());
        says(42, "`character`: any character");
        for (char character : "\0\n \u007f\u0080\u00ff\u0100\ud800\uffff".toCharArray()) {
            RingKiln other = new RingKiln();
            due(1, other.append(character));
            refused(ARGUMENT, other::run);
            due(0, other.errorPosition());
        }
        says(42, "Returns the number of characters in the buffer after the call.");
        for (int count = 1; count <= 60; count++) due(count, kiln.append(count < 5 ? 'x' : '\uffff'));
        says(42, "Throws `IllegalStateException` if the buffer contains 60 characters");
        refused(STATE, () -> kiln.append('x'));
        refused(STATE, () -> kiln.append(';'));
        refused(ARGUMENT, kiln::run);
        due(1, kiln.append('x'));
        RingKiln full = new RingKiln();
        Kilns.type(full, "pass 001;".repeat(6) + "pass 1");
        refused(STATE, () -> full.append('9'));
        // What was refused is not in the text.
        due("7 7", full.run() + " " + full.time());
    }

    private static void run() {
        says(43, "Runs the text buffer as a program.");
        RingKiln kiln = new RingKiln();
        due(1, Kilns.run(kiln, "draught 4"));
        due(4, kiln.draught());
        says(43, "The commands are carried out in order.");
        due(3, Kilns.run(kiln, "draught 1;draught 5;draught 2"));
        due(2, kiln.draught());
        kiln.addFuel('o', 9);
        kiln.feed(99);
        due(4, Kilns.run(kiln, "load 7 9;light 7;pass 1;out"));
        due("g 170 false", kiln.state(7) + " " + kiln.temperature(7) + " " + kiln.isLit());
        RingKiln other = Kilns.fuelled(0, 0, 9);
        refused(UNSUPPORTED, () -> Kilns.run(other, "feed 99;light 7;load 7 9"));
        due(1, other.failedCommand());
        says(43, "Returns the number of commands.");
        due(1, Kilns.run(new RingKiln(), "pass 1"));
        due(8, Kilns.run(new RingKiln(), "pass 1;pass 1;pass 1;pass 1;pass 1;pass 1;pass 1;pass 1"));
        RingKiln many = new RingKiln();
        many.load(0, 1);
        // In 59 characters there are 10 commands that can succeed.
        due(10, Kilns.run(many, "light 0;out;light 0;out;light 0;out;light 0;out;light 0;out"));
        due("1 0", many.undo() + " " + many.undo());
        says(43, "The buffer is empty afterwards in every case.");
        due(1, many.append('x'));
        refused(ARGUMENT, many::run);
        due(1, many.append('o'));
        Kilns.type(many, "ut");
        refused(UNSUPPORTED, many::run);
        due(1, many.append('x'));
        refused(ARGUMENT, many::run);
        refused(ARGUMENT, many::run);
        due(0, many.errorPosition());
    }

    private static void runThatFails() {
        says(43, "If one of them fails, none of them has an effect.");
        RingKiln kiln = ExceptionSentences.busy();
        String before = Kilns.stateOf(kiln);
        refused(UNSUPPORTED, () -> Kilns.run(kiln, "s 1;fuel w 9;price c 9;feed 20;out;light 3;out;out"));
        due(before + "11 7 \"223\"", Kilns.allOf(kiln));
        due("7 6", kiln.undo() + " " + kiln.undo());
        says(43, "Throws `IllegalArgumentException` if the text is not a program; the error position is stored");
        RingKiln wrong = new RingKiln();
        refused(ARGUMENT, wrong::run);
        due(0, wrong.errorPosition());
        refused(ARGUMENT, () -> Kilns.run(wrong, "pass 1;pass 1;pass 1x"));
        due("20 0", wrong.errorPosition() + " " + wrong.time());
        refused(MISSING, wrong::failedCommand);
        says(43, "Throws `UnsupportedOperationException` if a command fails, that is, if its method would throw an "
                + "exception; the index of the command, from 0, is stored as the failed command");
        // One command for each exception that a method can throw, on a kiln where it would.
        String[] commands = {
            "load 8 1", "load 9 0", "load 4 0", "load 4 61", "load 3 5", "load 2 5", "take 9", "take 3", "take 0",
            "light 8", "light 3", "draught 6", "draught 9", "pass 0", "pass 49", "pass 000", "fuel w 0",
            "fuel c 51", "price w 0", "price o 21", "price c 999", "feed 0", "feed 201", "feed 25", "wall 1 1",
            "wall 19 1", "wall 2 0", "wall 2 9", "wall 4 2", "wall 2 1", "wall 0 0"
        };
        for (String command : commands) {
            RingKiln busy = ExceptionSentences.busy();
            refused(UNSUPPORTED, () -> Kilns.run(busy, "s 1;" + command + ";pass 1"));
            due(command + " 1", command + " " + busy.failedCommand());
        }
        RingKiln last = Kilns.fuelled(50, 0, 0);
        refused(UNSUPPORTED, () -> Kilns.run(last, "out;out;out;out;out;out;out;out;out;out;out;out;out;out;out"));
        due(0, last.failedCommand());
        refused(UNSUPPORTED, () -> Kilns.run(last, "load 0 1;light 0;out;fuel w 49;out"));
        due(4, last.failedCommand());
        refused(UNSUPPORTED, () -> Kilns.run(last, "fuel w 49;fuel w 1"));
        due("1 50", last.failedCommand() + " " + last.fuel('w'));
        refused(UNSUPPORTED, () -> Kilns.run(Kilns.withHeat(999), "fuel w 1;feed 1"));
        refused(MISSING, last::errorPosition);
    }

    private static void errorPosition() {
        says(44, "Returns the error position that was stored last.");
        RingKiln kiln = new RingKiln();
        refused(ARGUMENT, () -> Kilns.run(kiln, "pass x"));
        refused(ARGUMENT, () -> Kilns.run(kiln, "fuel"));
        due(4, kiln.errorPosition());
        Kilns.run(kiln, "pass 1");
        refused(UNSUPPORTED, () -> Kilns.run(kiln, "pass 1;pass 2;out"));
        due(4, kiln.errorPosition());
        says(44, "Returns the error position.");
        refused(ARGUMENT, kiln::run);
        due(0, kiln.errorPosition());
        refused(ARGUMENT, () -> Kilns.run(kiln, "out;".repeat(15)));
        due(60, kiln.errorPosition());
        says(44, "Throws `NoSuchElementException` if none was stored");
        RingKiln none = new RingKiln();
        refused(MISSING, none::errorPosition);
        Kilns.run(none, "pass 1");
        refused(UNSUPPORTED, () -> Kilns.run(none, "out"));
        refused(MISSING, none::errorPosition);
    }

    private static void failedCommand() {
        says(45, "Returns the failed command that was stored last.");
        RingKiln kiln = new RingKiln();
        refused(UNSUPPORTED, () -> Kilns.run(kiln, "out"));
        refused(UNSUPPORTED, () -> Kilns.run(kiln, "pass 1;pass 2;out"));
        due(2, kiln.failedCommand());
        Kilns.run(kiln, "pass 1");
        refused(ARGUMENT, () -> Kilns.run(kiln, "out;out;"));
        due(2, kiln.failedCommand());
        says(45, "Returns the index of the command.");
        refused(UNSUPPORTED, () -> Kilns.run(kiln, "out"));
        due(0, kiln.failedCommand());
        kiln.load(0, 1);
        kiln.light(0);
        refused(UNSUPPORTED, () -> Kilns.run(kiln, "out;light 0;out;light 0;out;light 0;out;light 0;out;out"));
        due(9, kiln.failedCommand());
        says(45, "Throws `NoSuchElementException` if none was stored");
        RingKiln none = new RingKiln();
        refused(MISSING, none::failedCommand);
        Kilns.run(none, "pass 1");
        refused(ARGUMENT, () -> Kilns.run(none, "out;"));
        refused(MISSING, none::failedCommand);
    }

    private static void writeRing() {
        says(46, "Writes the ring to the output line, replacing its content: for each chamber the state, the "
                + "number of bricks if it is not empty, \":\" and the temperature, and \"*\" if the fire is in it, "
                + "with a blank between two chambers; for example \"f20:310 g15:950* e:60 e:20 e:20 e:20 e:20 "
                + "e:20\".");
        RingKiln kiln = Kilns.withHeat(999);
        due("e:20 e:20 e:20 e:20 e:20 e:20 e:20 e:20", Kilns.ring(kiln));
        kiln.load(0, 20);
        kiln.load(1, 15);
        kiln.light(0);
        due("g20:20* g15:20 e:20 e:20 e:20 e:20 e:20 e:20", Kilns.ring(kiln));
        kiln.passHours(7);
        due("f20:830 g15:410* e:60 e:20 e:20 e:20 e:20 e:20", Kilns.ring(kiln));
        // As at the end of the ring, so at its beginning.
        RingKiln end = Kilns.heated();
        end.load(7, 1);
        end.light(7);
        due("e:20 e:20 e:20 e:20 e:20 e:20 e:20 g1:20*", Kilns.ring(end));
        end.passHours(6);
        due("e:260 e:20 e:20 e:20 e:20 e:20 e:20 f1:920", Kilns.ring(end));
        // A shorter line leaves nothing of the longer one, nor of a course.
        end.undo();
        end.undo();
        due("e:20 e:20 e:20 e:20 e:20 e:20 e:20 g1:20", Kilns.ring(end));
        end.writeFirstCourse(18);
        due("e:20 e:20 e:20 e:20 e:20 e:20 e:20 g1:20", Kilns.ring(end));
        says(46, "Returns the length of the line.");
        due("40 39", end.writeRing() + " " + new RingKiln().writeRing());
        RingKiln full = Kilns.withHeat(999);
        for (int chamber = 0; chamber < 8; chamber++) full.load(chamber, 60);
        full.light(0);
        due(8 * 6 + 7 + 1, full.writeRing());
        full.passHours(11);
        due("f60:553 f60:1010 g60:220* g60:20 g60:20 g60:20 g60:20 g60:20", Kilns.ring(full));
        due(60, full.writeRing());
    }

    private static void writeFirstCourse() {
        RingKiln kiln = new RingKiln();
        says(47, "Writes the first course of a width to the output line, replacing its content: the lengths of its "
                + "bricks from the left to the right.");
        kiln.writeRing();
        kiln.writeFirstCourse(7);
        due("223", Kilns.line(kiln));
        kiln.writeFirstCourse(4);
        due("22", Kilns.line(kiln));
        says(47, "Courses are compared brick by brick from the left; a brick of the length 2 comes before one of "
                + "the length 3.");
        // Before 32 comes 23, before 33 comes 222, and before 232, 322 and 33 comes what begins with 22.
        String[] due = {
            "2", "3", "22", "23", "222", "223", "2222", "2223", "22222", "22223", "222222", "222223", "2222222",
            "2222223", "22222222", "22222223", "222222222"
        };
        for (int width = 2; width <= 18; width++) {
            kiln.writeFirstCourse(width);
            due(due[width - 2], Kilns.line(kiln));
        }
        says(47, "`width`: the width, 2 to 18");
        due("1 9", kiln.writeFirstCourse(2) + " " + kiln.writeFirstCourse(18));
        says(47, "Returns the length of the line.");
        for (int width = 2; width <= 18; width++) due(width / 2, kiln.writeFirstCourse(width));
        says(47, "Throws `IllegalArgumentException` if the width is out of range");
        refusedOutside(2, 18, ARGUMENT, kiln::writeFirstCourse);
        due("222222222", Kilns.line(kiln));
    }

    private static void outputAt() {
        says(48, "Returns a character of the output line, which is initially empty.");
        RingKiln kiln = new RingKiln();
        refused(INDEX, () -> kiln.outputAt(0));
        kiln.writeFirstCourse(5);
        due('2', kiln.outputAt(0));
        says(48, "`index`: the index, from 0");
        due("2 3", kiln.outputAt(0) + " " + kiln.outputAt(1));
        says(48, "Returns the character.");
        kiln.writeRing();
        due("e : 2 0", kiln.outputAt(0) + " " + kiln.outputAt(1) + " " + kiln.outputAt(37) + " " + kiln.outputAt(38));
        // The line is what was written, whatever happens to the kiln afterwards.
        kiln.load(0, 1);
        due('e', kiln.outputAt(0));
        says(48, "Throws `IndexOutOfBoundsException` if the index is negative or not less than the length of the "
                + "line");
        refusedOutside(0, 38, INDEX, kiln::outputAt);
        kiln.writeFirstCourse(2);
        due('2', kiln.outputAt(0));
        refusedOutside(0, 0, INDEX, kiln::outputAt);
        refused(INDEX, () -> kiln.outputAt(38));
    }

    private static void undo() {
        says(49, "Undoes the most recent changing call that has not been undone.");
        RingKiln kiln = new RingKiln();
        for (int hours = 1; hours <= 4; hours++) kiln.passHours(hours);
        kiln.undo();
        due(6, kiln.time());
        kiln.undo();
        due(3, kiln.time());
        // A new call comes on top of those that have not been undone.
        kiln.passHours(40);
        kiln.undo();
        due(3, kiln.time());
        kiln.undo();
        due(1, kiln.time());
        kiln.undo();
        due(0, kiln.time());
        // Each call is taken back as a whole, and a program too.
        RingKiln busy = ExceptionSentences.busy();
        String before = Kilns.stateOf(busy);
        due(7, Kilns.run(busy, "s 1;fuel w 9;price c 9;feed 20;out;light 3;draught 0"));
        due(7, busy.undo());
        due(before, Kilns.stateOf(busy));
        says(49, "Returns the number of calls that can still be undone.");
        RingKiln many = new RingKiln();
        for (int calls = 1; calls <= 8; calls++) many.setDraught(calls % 6);
        for (int left = 7; left >= 4; left--) due(left, many.undo());
        due(4, many.draught());
        many.setDraught(0);
        for (int left = 4; left >= 0; left--) due(left, many.undo());
        due(1, many.draught());
        says(49, "Throws `IllegalStateException` if no call can be undone");
        refused(STATE, many::undo);
        refused(STATE, new RingKiln()::undo);
        RingKiln nine = new RingKiln();
        for (int calls = 0; calls < 9; calls++) nine.passHours(1);
        for (int left = 7; left >= 0; left--) due(left, nine.undo());
        refused(STATE, nine::undo);
        due(1, nine.time());
        // A refused call is none that could be undone.
        refused(ARGUMENT, () -> nine.passHours(49));
        refused(STATE, nine::undo);
    }

    private static void save() {
        says(50, "Saves the state, replacing a previously saved state.");
        RingKiln kiln = new RingKiln();
        kiln.passHours(1);
        kiln.save();
        kiln.passHours(1);
        kiln.save();
        kiln.passHours(1);
        kiln.restore();
        due(2, kiln.time());
        RingKiln busy = ExceptionSentences.busy();
        String state = Kilns.stateOf(busy);
        busy.save();
        due(state, Kilns.stateOf(busy));
        Kilns.run(busy, "s 1;fuel w 9;price c 9;feed 20;out;light 3;draught 0");
        busy.restore();
        due(state, Kilns.stateOf(busy));
        says(50, "Saving is not a changing call.");
        RingKiln saving = new RingKiln();
        saving.save();
        refused(STATE, saving::undo);
        for (int calls = 0; calls < 8; calls++) {
            saving.passHours(1);
            saving.save();
        }
        for (int left = 7; left >= 0; left--) due(left, saving.undo());
        due(0, saving.time());
        // Undo does not take back what was saved.
        saving.restore();
        due(8, saving.time());
    }

    private static void restore() {
        says(51, "Restores the saved state, which stays saved.");
        RingKiln kiln = new RingKiln();
        kiln.save();
        for (int times = 0; times < 3; times++) {
            kiln.passHours(5);
            kiln.load(0, 1);
            kiln.restore();
            due("0 e", kiln.time() + " " + kiln.state(0));
        }
        says(51, "Afterwards no call can be undone.");
        refused(STATE, kiln::undo);
        kiln.passHours(1);
        due("0 0", kiln.undo() + " " + kiln.time());
        refused(STATE, kiln::undo);
        for (int calls = 0; calls < 9; calls++) kiln.passHours(1);
        kiln.restore();
        refused(STATE, kiln::undo);
        for (int calls = 0; calls < 9; calls++) kiln.passHours(1);
        for (int left = 7; left >= 0; left--) due(left, kiln.undo());
        due(1, kiln.time());
        says(51, "Throws `IllegalStateException` if no state was saved");
        refused(STATE, () -> {
            new RingKiln().restore();
            return "nothing";
        });
        RingKiln never = new RingKiln();
        never.passHours(1);
        never.undo();
        refused(STATE, () -> {
            never.restore();
            return "nothing";
        });
    }
}
