/** Promise 8 and loss detection D. */
public final class P08TickTest {
    private static final Due due = new Due();

    private static void refused() {
        Real x = new Real(32, 128, 1, 5);
        x.fill(0, 2, 1);
        x.lose();
        x.pass();
        x.passAck();
        int[] before = Look.at(x);
        for (int dt : new int[] {Integer.MIN_VALUE, -1000, -1, 0, 1001, 1002, Integer.MAX_VALUE}) {
            due.is("tick(" + dt + ")", x.tick(dt), false);
        }
        due.same("a refused tick changes nothing", Look.at(x), before);
        due.is("tick(1)", x.tick(1), true);
        due.is("tick(1000)", x.tick(1000), true);
        due.is("now", x.stats(QuicStreams.STAT_NOW), 1001);
    }

    private static void withoutAck() {
        Real x = new Real(32, 128, 1, 1);
        x.fill(0, 8, 1);
        for (int i = 0; i < 8; i++) x.lose();
        x.tick(1000);
        due.is("lost without an ACK", x.stats(QuicStreams.STAT_LOST), 0);
        due.is("largest", x.stats(QuicStreams.STAT_LARGEST), -1);
        for (int pn = 0; pn < 8; pn++) due.is("packetState", x.packetState(pn), QuicStreams.PKT_IN_FLIGHT);
    }

    private static void packetThreshold() {
        Real x = new Real(32, 128, 1, 1000);
        x.fill(0, 8, 1);
        for (int i = 0; i < 5; i++) x.lose();
        x.pass();
        x.lose();
        x.passAck();
        int[] want = {3, 3, 3, 1, 1, 2, 1};
        for (int pn = 0; pn < 7; pn++) due.is("packetState(" + pn + ")", x.packetState(pn), want[pn]);
        due.is("lost", x.stats(QuicStreams.STAT_LOST), 3);
        due.is("pending", x.streamInfo(0, QuicStreams.INFO_PENDING), 4);
        due.is("high", x.streamInfo(0, QuicStreams.INFO_HIGH), 7);
    }

    private static void timeThreshold() {
        Real x = new Real(32, 128, 1, 10);
        x.fill(0, 8, 1);
        x.lose();
        x.tick(3);
        x.lose();
        x.pass();
        x.lose();
        x.passAck();
        x.tick(6);
        due.is("packetState(0) at 9", x.packetState(0), QuicStreams.PKT_IN_FLIGHT);
        x.tick(1);
        due.is("packetState(0) at 10", x.packetState(0), QuicStreams.PKT_LOST);
        due.is("packetState(1) at 10", x.packetState(1), QuicStreams.PKT_IN_FLIGHT);
        x.tick(3);
        due.is("packetState(1) at 13", x.packetState(1), QuicStreams.PKT_LOST);
        x.tick(1000);
        due.is("above largest", x.packetState(3), QuicStreams.PKT_IN_FLIGHT);
        due.is("acked", x.packetState(2), QuicStreams.PKT_ACKED);
        due.is("lost counts once", x.stats(QuicStreams.STAT_LOST), 2);
    }

    /** The ACK itself finds what is already old. */
    private static void timeThresholdByAck() {
        Real x = new Real(32, 128, 1, 10);
        x.fill(0, 2, 1);
        x.lose();
        x.pass();
        x.tick(10);
        due.is("before the ACK", x.packetState(0), QuicStreams.PKT_IN_FLIGHT);
        x.passAck();
        due.is("with the ACK", x.packetState(0), QuicStreams.PKT_LOST);
    }

    /** The bytes were sent again and the first sending was acknowledged late: they stay done. */
    private static void doneStaysDone() {
        Real x = new Real(32, 128, 1, 10);
        x.fill(0, 2, 1);
        x.send(2);
        x.deliver(0, 1);
        x.passAck();
        x.tick(10);
        due.is("packetState(0)", x.packetState(0), QuicStreams.PKT_LOST);
        due.is("sent again", x.lose(), 2);
        due.is("frame(2, 0)", x.frame(2, 0), 1);
        x.fill(0, 2, 3);
        x.deliver(0, 0);
        x.pass();
        x.passAck();
        due.is("spurious", x.stats(QuicStreams.STAT_SPURIOUS), 1);
        x.tick(10);
        due.is("packetState(2)", x.packetState(2), QuicStreams.PKT_LOST);
        due.is("lost", x.stats(QuicStreams.STAT_LOST), 2);
        due.is("done", x.streamInfo(0, QuicStreams.INFO_DONE), 3);
        due.is("pending", x.streamInfo(0, QuicStreams.INFO_PENDING), 1);
    }

    /** A lost packet's frames on all its streams become pending, and its record stays. */
    private static void allFrames() {
        Real x = new Real(32, 128, 8, 10);
        for (int s = 0; s < 4; s++) x.fill(s, 2, 10 * s);
        x.lose();
        x.fill(0, 1, 99);
        x.pass();
        x.passAck();
        x.tick(10);
        for (int s = 0; s < 4; s++) {
            due.is("pending of " + s, x.streamInfo(s, QuicStreams.INFO_PENDING), 2);
            due.is("frame(0, " + s + ")", x.frame(0, s), 2);
        }
        due.is("sent again", x.pass(), 2);
        for (int s = 0; s < 4; s++) {
            due.is("frame(2, " + s + ")", x.frame(2, s), 2);
            due.is("read(" + s + ")", x.read(s), 10 * s);
        }
    }

    private static void toWrap(Real x) {
        for (int i = 0; i < 2147483; i++) x.tick(1000);
    }

    private static void wraps() {
        Real x = new Real(32, 128, 1, 1000);
        x.fill(0, 8, 1);
        x.send(2);
        toWrap(x);
        due.is("now before the wrap", x.stats(QuicStreams.STAT_NOW), 2147483000);
        due.is("tick(1000)", x.tick(1000), true);
        due.is("now behind the wrap", x.stats(QuicStreams.STAT_NOW), 2147483000 + 1000);
        due.is("now is below 0", x.stats(QuicStreams.STAT_NOW) < 0, true);
        x.deliver(0, 1);
        x.passAck();
        due.is("the difference has wrapped below the delay", x.packetState(0), QuicStreams.PKT_IN_FLIGHT);

        Real y = new Real(32, 128, 1, 1000);
        toWrap(y);
        y.fill(0, 8, 1);
        y.lose();
        y.pass();
        y.passAck();
        y.tick(999);
        due.is("over the wrap, before the delay", y.packetState(0), QuicStreams.PKT_IN_FLIGHT);
        y.tick(1);
        due.is("over the wrap, at the delay", y.packetState(0), QuicStreams.PKT_LOST);
    }

    public static void main(String[] args) {
        refused();
        withoutAck();
        packetThreshold();
        timeThreshold();
        timeThresholdByAck();
        doneStaysDone();
        allFrames();
        wraps();
        due.finish();
    }
}
