/** Promise 8 and loss detection D. */
public final class P08TickTest {
    private static final Due due = new Due();

    private static void refused() {
        Real x = new Real(32, 128, 1, 5);
        x.fill(0, 2, 1);
        x.lose();
        x.pass();
        x.passAck();
        int[] before = Look.at(x);
        for (int dt : new int[] {Integer.MIN_VALUE, -1000, -1, 0, 1001, 1002, Integer.MAX_VALUE}) {
            due.is("tick(" + dt + ")", x.tick(dt), false);
        }
        due.same("a refused tick changes nothing", Look.at(x), before);
        due.is("tick(1)", x.tick(1), true);
        due.is("tick(1000)", x.tick(1000), true);
        due.is("now", x.stats(QuicStreams.STAT_NOW), 1001);
    }

    private static void withoutAck() {
        Real x = new Real(32, 128, 1, 1);
        x.fill(0, 8, 1);
        for (int i = 0; i < 8; i++) x.lose();
        x.tick(1000);
        due.is("lost without an ACK", x.stats(QuicStreams.STAT_LOST), 0);
        due.is("largest", x.stats(QuicStreams.STAT_LARGEST), -1);
        for (int pn = 0; pn < 8; pn++) due.is("packetState", x.packetState(pn), QuicStreams.PKT_IN_FLIGHT);
    }

    private static void packetThreshold() {
        Real x = new Real(32, 128, 1, 1000);
        x.fill(0, 8, 1);
        for (int i = 0; i < 5; i++) x.lose();
        x.pass();
        x.lose();
        x.passAck();
        int[] want = {3, 3, 3, 1, 1, 2, 1};
        for (int pn = 0; pn < 7; pn++) due.is("packetState(" + pn + ")", x.packetState(pn), want[pn]);
        due.is("lost", x.stats(QuicStreams.STAT_LOST), 3);
        due.is("pending", x.streamInfo(0, QuicStreams.INFO_PENDING), 4);
        due.is("high", x.streamInfo(0, QuicStreams.INFO_HIGH), 7);
    }

    private static void timeThreshold() {
        Real x = new Real(32, 128, 1, 10);
        x.fill(0, 8, 1);
        x.lose();
        x.tick(3);
        x.lose();
        x.pass();
        x.lose();
        x.passAck();
        x.tick(6);
        due.is("packetState(0) at 9", x.packetState(0), QuicStreams.PKT_IN_FLIGHT);
        x.tick(1);
        due.is("packetState(0) at 10", x.packetState(0), QuicStreams.PKT_LOST);
        due.is("packetState(1) at 10", x.packetState(1), QuicStreams.PKT_IN_FLIGHT);
        x.tick(3);
        due.is("packetState(1) at 13", x.packetState(1), QuicStreams.PKT_LOST);
        x.tick(1000);
        due.is("above largest", x.packetState(3), QuicStreams.PKT_IN_FLIGHT);
        due.is("acked", x.packetState(2), QuicStreams.PKT_ACKED);
        due.is("lost counts once", x.stats(QuicStreams.STAT_LOST), 2);
    }

    /** The ACK itself finds what is already old. */
    private static void timeThresholdByAck() {
        Real x = new Real(32, 128, 1, 10);
        x.fill(0, 2, 1);
        x.lose();
        x.pass();
        x.tick(10);
        due.is("before the ACK", x.packetState(0), QuicStreams.PKT_IN_FLIGHT);
        x.passAck();
        due.is("with the ACK", x.packetState(0), QuicStreams.PKT_LOST);
    }

    /** The bytes were sent again and the first sending was acknowledged late: they stay done. */
    private static void doneStaysDone() {
        Real x = new Real(32, 128, 1, 10);
        x.fill(0, 2, 1);
        x.send(2);
        x.deliver(0, 1);
        x.passAck();
        x.tick(10);
        due.is("packetState(0)", x.packetState(0), QuicStreams.PKT_LOST);
        due.is("sent again", x.lose(), 2);
        due.is("frame(2, 0)", x.frame(2, 0), 1);
        x.fill(0, 2, 3);
        x.deliver(0, 0);
        x.pass();
        x.passAck();
        due.is("spurious", x.stats(QuicStreams.STAT_SPURIOUS), 1);
        x.tick(10);
        due.is("packetState(2)", x.packetState(2), QuicStreams.PKT_LOST);
        due.is("lost", x.stats(QuicStreams.STAT_LOST), 2);
        due.is("done", x.streamInfo(0, QuicStreams.INFO_DONE), 3);
        due.is("pending", x.streamInfo(0, QuicStreams.INFO_PENDING), 1);
    }

    /** A lost packet's frames on all its streams become pending, and its record stays. */
    private static void allFrames() {
        Real x = new Real(32, 128, 8, 10);
        for (int s = 0; s < 4; s++) x.fill(s, 2, 10 * s);
        x.lose();
        x.fill(0, 1, 99);
        x.pass();
        x.passAck();
        x.tick(10);
        for (int s = 0; s < 4; s++) {
            due.is("pending of " + s, x.streamInfo(s, QuicStreams.INFO_PENDING), 2);
            due.is("frame(0, " + s + ")", x.frame(0, s), 2);
        }
        due.is("sent again", x.pass(), 2);
        for (int s = 0; s < 4; s++) {
            due.is("frame(2, " + s + ")", x.frame(2, s), 2);
            due.is("read(" + s + ")", x.read(s), 10 * s);
        }
    }

    private static void toWrap(Real x) {
        for (int i = 0; i < 2147483; i++) x.tick(1000);
    }

    private static void wraps() {
        Real x = new Real(32, 128, 1, 1000);
        x.fill(0, 8, 1);
        x.send(2);
        toWrap(x);
        due.is("now before the wrap", x.stats(QuicStreams.STAT_NOW), 2147483000);
        due.is("tick(1000)", x.tick(1000), true);
        due.is("now behind the wrap", x.stats(QuicStreams.STAT_NOW), 2147483000 + 1000);
        due.is("now is below 0", x.stats(QuicStreams.STAT_NOW) < 0, true);
        x.deliver(0, 1);
        x.passAck();
        due.is("the difference has wrapped below the delay", x.packetState(0), QuicStreams.PKT_IN_FLIGHT);

        Real y = new Real(32, 128, 1, 1000);
        toWrap(y);
        y.fill(0, 8, 1);
        y.lose();
        y.pass();
        y.passAck();
        y.tick(999);
        due.is("over the wrap, before the delay", y.packetState(0), QuicStreams.PKT_IN_FLIGHT);
        y.tick(1);
        due.is("over the wrap, at the delay", y.packetState(0), QuicStreams.PKT_LOST);
    }

    private static void exactEndOfTheClock() {
        Real x = new Real(32, 128, 1, 1000);
        toWrap(x);
        x.tick(647);
        due.is("the greatest time", x.stats(QuicStreams.STAT_NOW), Integer.MAX_VALUE);
        due.is("tick(0) there", x.tick(0), false);
        due.is("tick(1001) there", x.tick(1001), false);
        due.is("the time stays", x.stats(QuicStreams.STAT_NOW), Integer.MAX_VALUE);
        due.is("tick(1)", x.tick(1), true);
        due.is("the least time", x.stats(QuicStreams.STAT_NOW), Integer.MIN_VALUE);
    }

    /** Packet 0 was sent at 0, and only now the ACK of packet 1 makes D look at it. */
    private static Real firstAckAt(int more, int turns) {
        Real x = new Real(32, 128, 1, 1000);
        x.fill(0, 2, 1);
        x.send(2);
        for (int i = 0; i < turns; i++) toWrap(x);
        int left = more;
        while (left > 0) {
            int dt = Math.min(left, 1000);
            x.tick(dt);
            left -= dt;
        }
        x.deliver(0, 1);
        x.passAck();
        return x;
    }

    private static void differenceWraps() {
        Real greatest = firstAckAt(647, 1);
        due.is("now", greatest.stats(QuicStreams.STAT_NOW), Integer.MAX_VALUE);
        due.is("the greatest difference", greatest.packetState(0), QuicStreams.PKT_LOST);
        Real least = firstAckAt(648, 1);
        due.is("now", least.stats(QuicStreams.STAT_NOW), Integer.MIN_VALUE);
        due.is("the least difference", least.packetState(0), QuicStreams.PKT_IN_FLIGHT);
        least.tick(1000);
        due.is("still below 0", least.packetState(0), QuicStreams.PKT_IN_FLIGHT);
        Real turned = firstAckAt(1296 + 999, 2);
        due.is("now, a whole turn on", turned.stats(QuicStreams.STAT_NOW), 999);
        due.is("a difference of 999 again", turned.packetState(0), QuicStreams.PKT_IN_FLIGHT);
        turned.tick(1);
        due.is("a difference of 1000 again", turned.packetState(0), QuicStreams.PKT_LOST);
    }

    private static void largestIsZero() {
        Real x = new Real(32, 128, 1, 1);
        x.fill(0, 4, 1);
        x.pass();
        for (int i = 0; i < 3; i++) x.lose();
        x.passAck();
        due.is("largest", x.stats(QuicStreams.STAT_LARGEST), 0);
        int[] before = Look.at(x);
        x.tick(1000);
        due.onlyChanged("no packet is below 0", Look.at(x), before, "stats 0");
    }

    private static void largestIsTheLastNumber() {
        Real x = new Real(32, 128, 1, 1000);
        x.fill(0, 32, 1);
        x.fill(1, 32, 1);
        for (int pn = 0; pn < 63; pn++) x.lose();
        x.pass();
        x.passAck();
        for (int pn = 0; pn < 61; pn++) due.is("packetState(" + pn + ")", x.packetState(pn), QuicStreams.PKT_LOST);
        due.is("packetState(61)", x.packetState(61), QuicStreams.PKT_IN_FLIGHT);
        due.is("packetState(62)", x.packetState(62), QuicStreams.PKT_IN_FLIGHT);
        due.is("lost", x.stats(QuicStreams.STAT_LOST), 61);
        x.tick(1000);
        due.is("packetState(61) later", x.packetState(61), QuicStreams.PKT_LOST);
        due.is("packetState(62) later", x.packetState(62), QuicStreams.PKT_LOST);
        due.is("packetState(63) later", x.packetState(63), QuicStreams.PKT_ACKED);
        due.is("lost in the end", x.stats(QuicStreams.STAT_LOST), 63);
        due.is("they cannot go again", x.sendData(), QuicStreams.SEND_NO_NUMBERS);
    }

    /** A packet is declared lost while it is still in the channel, and nothing but S's marks and counters moves. */
    private static void lossLeavesTheRest() {
        Real x = new Real(32, 128, 2, 10);
        x.fill(0, 2, 1);
        x.fill(1, 2, 1);
        x.send(2);
        x.deliver(0, 1);
        x.passAck();
        x.sendAck();
        int[] before = Look.at(x);
        due.is("tick(10)", x.tick(10), true);
        due.onlyChanged("a loss", Look.at(x), before, "stats 0", "stats 3", "packetState 0",
            "streamInfo of stream 0, kind 2", "streamInfo of stream 0, kind 3");
        due.is("pending", x.streamInfo(0, QuicStreams.INFO_PENDING), 2);
        due.is("outstanding", x.streamInfo(0, QuicStreams.INFO_OUTSTANDING), 0);
        before = Look.at(x);
        x.tick(1000);
        due.onlyChanged("lost and acknowledged packets stay", Look.at(x), before, "stats 0");
        due.is("the lost packet can still arrive", x.deliver(0, 0), true);
        due.is("received(0)", x.received(0), true);
    }

    private static Real lastOneAcked() {
        Real x = new Real(32, 128, 1, 10);
        x.fill(0, 3, 1);
        x.lose();
        x.pass();
        x.lose();
        x.passAck();
        return x;
    }

    /** The packet numbered largest is always acknowledged; only from inside it can be put in flight. */
    private static void largestItselfIsLeft() throws ReflectiveOperationException {
        Real x = lastOneAcked();
        due.is("largest", x.stats(QuicStreams.STAT_LARGEST), 1);
        Inside.of(P08TickTest::lastOneAcked, y -> y.packetState(1), QuicStreams.PKT_IN_FLIGHT)
            .set(x, QuicStreams.PKT_IN_FLIGHT);
        x.tick(1000);
        int[] want = {QuicStreams.PKT_LOST, QuicStreams.PKT_IN_FLIGHT, QuicStreams.PKT_IN_FLIGHT};
        for (int pn = 0; pn < 3; pn++) due.is("packetState(" + pn + ")", x.packetState(pn), want[pn]);
    }

    /** With the least delay a packet of this very moment is not late, one of the moment before is. */
    private static void leastDelay() {
        Real x = new Real(32, 128, 1, 1);
        x.fill(0, 3, 1);
        x.lose();
        x.tick(1);
        x.lose();
        x.pass();
        x.passAck();
        due.is("sent a moment before", x.packetState(0), QuicStreams.PKT_LOST);
        due.is("sent in this moment", x.packetState(1), QuicStreams.PKT_IN_FLIGHT);
    }

    public static void main(String[] args) throws ReflectiveOperationException {
        refused();
        withoutAck();
        packetThreshold();
        timeThreshold();
        timeThresholdByAck();
        doneStaysDone();
        allFrames();
        wraps();
        exactEndOfTheClock();
        differenceWraps();
        largestIsZero();
        largestIsTheLastNumber();
        lossLeavesTheRest();
        largestItselfIsLeft();
        leastDelay();
        due.finish();
    }
}
