import com.sun.management.ThreadMXBean;
import java.lang.management.ManagementFactory;

/** What the calls of one object make: the room holds little, so the calls make nothing. */
public final class RoomTest {
    /** Of some 25 calls, so that all of them with those ahead are below 512. */
    private static final int ROUNDS = 15;
    private static final long MOST_BYTES_OF_AN_OBJECT = 40_000;

    private static int told = 0;

    public static void main(String[] args) {
        ThreadMXBean threads = (ThreadMXBean) ManagementFactory.getThreadMXBean();
        long thread = Thread.currentThread().getId();
        StringVotes x = Scene.full();
        Scene.write(x, Scene.THIRTY_SESSIONS);
        all(x);
        long before = threads.getThreadAllocatedBytes(thread);
        for (int round = 0; round < ROUNDS; round++) {
            all(x);
        }
        long calls = threads.getThreadAllocatedBytes(thread) - before;
        // The question itself may make a little.
        Due.holds("the calls make nothing, but made " + calls + " bytes", calls < 1000);
        before = threads.getThreadAllocatedBytes(thread);
        StringVotes another = new StringVotes();
        long object = threads.getThreadAllocatedBytes(thread) - before;
        Due.holds("an object is small, but has " + object + " bytes", object < MOST_BYTES_OF_AN_OBJECT);
        Due.is("an object is one", another.count(0) + (told == 0 ? 1 : 0), 0);
        Due.end("RoomTest");
    }

    private static void all(StringVotes x) {
        told |= x.puppet(1, 0) | x.cut(0) | x.tie(0, 11, false, 0) | x.cutDeal(1);
        told |= x.set(0, 12) | x.pull(3, 1) | x.pull(4, 1) | x.release(4) | x.session() | x.undo();
        told |= x.puppetOf(3, 7) | x.stringOf(0, 4) | x.between(0, 9) | x.book(0, 0);
        told |= x.whyTie(0, 1, true) | x.whyPull(3, 1) | x.bestPull(0) | x.fewest(0) | x.fewest(1);
        told |= x.ifCut(0, 0) | x.share() | x.count(3) | x.type('v') | x.fault(0) | x.play();
    }
}
