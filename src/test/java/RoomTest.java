import com.sun.management.ThreadMXBean;
import java.lang.management.ManagementFactory;

/** A run of calls fits its room: an object makes its rows once, and no call makes anything. */
public final class RoomTest {
    private static final Check check = new Check("RoomTest");
    private static final ThreadMXBean machine = (ThreadMXBean) ManagementFactory.getThreadMXBean();
    private static final int NONE = ProtocolBench.NONE;
    private static long sum = 0;

    private RoomTest() {
    }

    private static long bytes() {
        return machine.getThreadAllocatedBytes(Thread.currentThread().getId());
    }

    /** Hundreds of STATES, told in some ninety calls. */
    private static void tell(ProtocolBench x) {
        x.role(2);
        x.role(1);
        x.own(0, 0, 9, 0);
        x.own(1, 0, 9, 0);
        x.channel(2, true, true);
        x.channel(1, false, true);
        int one = x.expr(0, 1, 0, 0), two = x.expr(0, 2, 0, 0), mine = x.expr(2, 0, 0, 0);
        int some = x.expr(5, 0, 0, 0), inner = x.expr(4, 0, 1, 0), both = x.expr(12, some, inner, 0);
        x.observe(some);
        x.observe(both);
        for (int i = 0; i < 60; i++) {
            x.expr(7 + i % 7, x.count(3) - 1, one, 0);
        }
        x.act(x.step(0, 0, 1, NONE), 2, 0, one);
        x.act(x.step(0, 1, 0, NONE), 2, 0, two);
        x.act(x.step(1, 0, 1, NONE), 3, 0, 0);
        x.act(x.step(1, 1, 0, mine), 2, 1, mine);
        x.step(1, 1, 1, NONE);
    }

    private static void ask(ProtocolBench x) {
        for (int i = 0; i < 40; i++) {
            x.end(0, i % 10);
            sum += x.search();
            sum += x.stuck() + x.fault(0) + x.always(i) + x.again(i, false) + x.fromTo(i, 4, false);
            sum += x.classes() + x.classOf(i) + x.tells(i, 5) + x.owned(i, 0, 1, 0) + x.letter(i, 0, 1);
        }
    }

    public static void main(String[] args) {
        // Once ahead, so that what the machine itself makes at first is not counted.
        for (int i = 0; i < 3; i++) {
            ProtocolBench x = new ProtocolBench();
            tell(x);
            ask(x);
        }
        long before = bytes();
        ProtocolBench x = new ProtocolBench();
        long made = bytes() - before;
        // Some 31,000 elements of four bytes: over two hundred objects of this size fill the room.
        check.holds("an object takes " + made + " bytes", made < 160_000);
        before = bytes();
        tell(x);
        ask(x);
        long asked = bytes() - before;
        check.holds("its calls take " + asked + " bytes", asked < 2_000);
        int states = x.search();
        System.out.println("an object takes " + made + " bytes, its calls " + asked + "; " + states + " states, sum " + sum);
        check.holds("many STATES were found", states > 200);
        check.finish();
    }
}
