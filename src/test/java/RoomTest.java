import com.sun.management.ThreadMXBean;
import java.lang.management.ManagementFactory;

/** All calls of a run share one room, so calls use the rows again that the constructor made. */
public final class RoomTest {
    private static final int OBJECTS = 80;
    // So that no object gets more calls than the document promises answers of.
    private static final int ROUNDS = 6;
    private static final long MOST_BYTES_OF_A_ROUND = 64;
    private static final long MOST_BYTES_OF_AN_OBJECT = 30_000;
    private static final String PROGRAM = "light 3;pass 48;draught 2;feed 50";
    private static final ThreadMXBean THREADS = (ThreadMXBean) ManagementFactory.getThreadMXBean();

    private static RingKiln kiln;

    private RoomTest() {
    }

    public static void main(String[] args) {
        // The first calls of all load classes, which is not counted.
        kiln = newKiln();
        useOnce();
        Check.topic("the room of a new object");
        long before = allocated();
        kiln = new RingKiln();
        long size = allocated() - before;
        Check.due(true, size <= MOST_BYTES_OF_AN_OBJECT);
        Check.topic("the room of many calls");
        RingKiln[] kilns = new RingKiln[OBJECTS];
        for (int i = 0; i < OBJECTS; i++) kilns[i] = newKiln();
        before = allocated();
        for (RingKiln next : kilns) {
            kiln = next;
            for (int round = 0; round < ROUNDS; round++) useOnce();
        }
        long each = (allocated() - before) / (OBJECTS * ROUNDS);
        Check.due(true, each <= MOST_BYTES_OF_A_ROUND);
        System.out.println("a new object takes " + size + " bytes, a round of the dearest calls " + each);
        Check.finish();
    }

    private static long allocated() {
        return THREADS.getCurrentThreadAllocatedBytes();
    }

    private static RingKiln newKiln() {
        RingKiln made = new RingKiln();
        for (char kind : "wco".toCharArray()) made.addFuel(kind, 50);
        made.feed(200);
        for (int chamber = 0; chamber < 8; chamber++) made.load(chamber, 60);
        return made;
    }

    /** Makes a call of each kind that could be dear, and leaves the kiln as it was. */
    private static void useOnce() {
        kiln.save();
        kiln.addFuel('w', 1);
        kiln.feed(200);
        kiln.undo();
        for (int i = 0; i < PROGRAM.length(); i++) kiln.append(PROGRAM.charAt(i));
        kiln.run();
        kiln.restore();
        kiln.firedIn(100);
        kiln.hoursUntilOut();
        kiln.hoursUntilCool(0);
        kiln.lowestCost(200);
        kiln.lowestCostByTrying(200);
        kiln.piecesInMixture('o', 200);
        kiln.wallCount(18, 8);
        kiln.wallCountByMemory(18, 8);
        kiln.fewestBricks(18, 8);
        kiln.courseCount(18);
        kiln.isConsistent();
        kiln.writeRing();
        kiln.writeFirstCourse(18);
        kiln.outputAt(0);
    }
}
