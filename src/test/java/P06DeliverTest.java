/** Promise 6: deliver. */
public final class P06DeliverTest {
    private static final Due due = new Due();

    private static void refused() {
        Real x = new Real(32, 128, 1, 100);
        x.fill(0, 3, 1);
        int[] empty = Look.at(x);
        for (int slot : new int[] {Integer.MIN_VALUE, -1, 0, 1, 8, Integer.MAX_VALUE}) {
            due.is("empty: deliver(0, " + slot + ")", x.deliver(0, slot), false);
            due.is("empty: deliver(1, " + slot + ")", x.deliver(1, slot), false);
        }
        due.same("an empty channel changes nothing", Look.at(x), empty);
        x.send(2);
        x.sendAck();
        int[] before = Look.at(x);
        for (int dir : new int[] {Integer.MIN_VALUE, -1, 2, 3, Integer.MAX_VALUE}) {
            due.is("deliver(" + dir + ", 0)", x.deliver(dir, 0), false);
        }
        for (int slot : new int[] {Integer.MIN_VALUE, -1, 2, 8, Integer.MAX_VALUE}) {
            due.is("deliver(0, " + slot + ")", x.deliver(0, slot), false);
        }
        due.is("deliver(1, 1)", x.deliver(1, 1), false);
        due.is("deliver(1, -1)", x.deliver(1, -1), false);
        due.same("a wrong argument changes nothing", Look.at(x), before);
        due.is("the last slot", x.deliver(0, 1), true);
    }

    private static void slotsMoveDown() {
        Real x = new Real(32, 128, 1, 100);
        x.fill(0, 8, 40);
        x.send(8);
        due.is("deliver(0, 3)", x.deliver(0, 3), true);
        int[] want = {0, 1, 2, 4, 5, 6, 7, -1};
        for (int i = 0; i < 8; i++) due.is("channelPn(" + i + ")", x.channelPn(i), want[i]);
        due.is("received(3)", x.received(3), true);
        due.is("received(2)", x.received(2), false);
        due.is("rhigh", x.streamInfo(0, QuicStreams.INFO_RHIGH), 4);
        due.is("received bytes", x.streamInfo(0, QuicStreams.INFO_RECEIVED), 1);
        x.deliver(0, 6);
        due.is("the last one left", x.received(7), true);
        due.is("count", x.stats(QuicStreams.STAT_DATA_IN_CHANNEL), 6);
        for (int i = 0; i < 6; i++) x.deliver(0, 0);
        for (int i = 0; i < 8; i++) due.is("read " + i, x.read(0), 40 + i);
    }

    private static void dataLeavesSender() {
        Real x = new Real(4, 6, 8, 100);
        x.fill(0, 2, 1);
        x.fill(3, 2, 3);
        x.send(1);
        x.sendAck();
        x.deliver(0, 0);
        due.is("state", x.packetState(0), QuicStreams.PKT_IN_FLIGHT);
        due.is("outstanding", x.streamInfo(0, QuicStreams.INFO_OUTSTANDING), 2);
        due.is("consumed", x.streamInfo(0, QuicStreams.INFO_CONSUMED), 0);
        due.is("last built ACK", x.stats(QuicStreams.STAT_ACK_RANGES), 0);
        due.is("ACK channel", x.stats(QuicStreams.STAT_ACK_IN_CHANNEL), 1);
        due.is("rhigh of 3", x.streamInfo(3, QuicStreams.INFO_RHIGH), 2);
        due.is("rhigh of 1", x.streamInfo(1, QuicStreams.INFO_RHIGH), 0);
        due.is("violations", x.stats(QuicStreams.STAT_VIOLATIONS), 0);
    }

    /** The sender keeps within the credits, so even using them up is no violation. */
    private static void creditUsedUp() {
        Real x = new Real(4, 6, 8, 100);
        x.fill(0, 8, 1);
        x.fill(1, 8, 1);
        x.pass();
        due.is("rhigh of 0", x.streamInfo(0, QuicStreams.INFO_RHIGH), 4);
        due.is("rhigh of 1", x.streamInfo(1, QuicStreams.INFO_RHIGH), 2);
        due.is("violations", x.stats(QuicStreams.STAT_VIOLATIONS), 0);
        due.is("no more", x.sendData(), QuicStreams.SEND_NOTHING);
    }

    /**
     * Sets an advertised credit as credit(5 + k) tells it. The sender never goes beyond its credit,
     * so no run of calls leads to a violation; the receiver's rule can be tried only from inside.
     */
    private static void advertise(Real x, int k, int credit) throws ReflectiveOperationException {
        Inside place = Inside.of(() -> new Real(32, 128, 4, 100), y -> y.credit(5 + k), 17);
        place.set(x, credit);
        due.is("credit(" + (5 + k) + ") as set", x.credit(5 + k), credit);
    }

    private static void receiver(String when, Real x, int stream, int rhigh, int cells, int violations) {
        due.is(when + ": rhigh", x.streamInfo(stream, QuicStreams.INFO_RHIGH), rhigh);
        due.is(when + ": received", x.streamInfo(stream, QuicStreams.INFO_RECEIVED), cells);
        due.is(when + ": violations", x.stats(QuicStreams.STAT_VIOLATIONS), violations);
    }

    private static void streamViolation() throws ReflectiveOperationException {
        Real x = new Real(32, 128, 4, 100);
        x.fill(1, 4, 7);
        advertise(x, 1, 2);
        due.is("pass", x.pass(), 0);
        due.is("the packet counts as received", x.received(0), true);
        receiver("stream credit 2", x, 1, 2, 2, 2);
        due.is("read 0", x.read(1), 7);
        due.is("read 1", x.read(1), 8);
        due.is("read 2", x.read(1), -1);
    }

    private static void connectionViolation() throws ReflectiveOperationException {
        Real x = new Real(32, 128, 4, 100);
        x.fill(0, 2, 7);
        x.fill(1, 2, 9);
        advertise(x, 4, 3);
        x.pass();
        receiver("stream 0", x, 0, 2, 2, 1);
        receiver("stream 1", x, 1, 1, 1, 1);
    }

    /** The credit is counted up to the greatest offset, gaps with it; bytes in a gap are then free. */
    private static void violationBehindGap() throws ReflectiveOperationException {
        Real x = new Real(32, 128, 2, 100);
        x.fill(0, 4, 7);
        x.send(2);
        advertise(x, 4, 3);
        x.deliver(0, 1);
        receiver("offsets 2 and 3 first", x, 0, 3, 1, 1);
        x.deliver(0, 0);
        receiver("then 0 and 1", x, 0, 3, 3, 1);

        Real y = new Real(32, 128, 2, 100);
        y.fill(0, 4, 7);
        y.send(2);
        advertise(y, 4, 2);
        y.deliver(0, 1);
        receiver("no credit for offset 2", y, 0, 0, 0, 2);
        y.deliver(0, 0);
        receiver("credit for 0 and 1", y, 0, 2, 2, 2);
    }

    /** Offsets below rhigh need no connection credit, even where more is used than there is. */
    private static void gapNeedsNoCredit() throws ReflectiveOperationException {
        Real x = new Real(32, 128, 2, 100);
        x.fill(0, 4, 7);
        x.send(2);
        x.deliver(0, 1);
        receiver("offsets 2 and 3", x, 0, 4, 2, 0);
        advertise(x, 4, 1);
        x.deliver(0, 0);
        receiver("offsets 0 and 1 without credit", x, 0, 4, 4, 0);
    }

    /** The same holds for the greatest offset below rhigh, which comes a second time. */
    private static void topOffsetAgainNeedsNoCredit() throws ReflectiveOperationException {
        Real x = new Real(32, 128, 1, 10);
        x.fill(0, 1, 7);
        x.fill(1, 1, 8);
        x.send(2);
        x.deliver(0, 1);
        x.passAck();
        x.tick(10);
        x.send(1);
        x.deliver(0, 0);
        due.is("packet 2 carries the only byte of stream 0", x.frame(2, 0), 1);
        advertise(x, 4, 1);
        x.deliver(0, 0);
        receiver("offset 0 again without credit", x, 0, 1, 1, 0);
    }

    /** A byte that is discarded does not end the packet: the next stream's bytes are taken in. */
    private static void violationThenNextStream() throws ReflectiveOperationException {
        Real x = new Real(32, 128, 8, 100);
        x.fill(0, 3, 7);
        x.fill(3, 2, 9);
        advertise(x, 0, 1);
        x.pass();
        receiver("stream 0", x, 0, 1, 1, 2);
        receiver("stream 3", x, 3, 2, 2, 2);
        due.is("read(3)", x.read(3), 9);
    }

    /** The last offset that a stream can have, with the last credit that there can be. */
    private static void greatestCreditUsedUp() {
        Real x = new Real(32, 128, 8, 100);
        for (int s = 0; s < 4; s++) x.fill(s, 32, s);
        for (int i = 0; i < 16; i++) x.pass();
        for (int s = 0; s < 4; s++) receiver("stream " + s, x, s, 32, 32, 0);
    }

    /** Packet 0 is late, so its byte goes again in packet 2; both arrive. */
    private static Real secondCopyOnItsWay() {
        Real x = new Real(32, 128, 1, 10);
        x.fill(0, 2, 7);
        x.send(2);
        x.deliver(0, 1);
        x.passAck();
        x.tick(10);
        x.send(1);
        x.deliver(0, 0);
        return x;
    }

    private static void secondCopy() throws ReflectiveOperationException {
        Real x = secondCopyOnItsWay();
        due.is("packet 2 carries offset 0 again", x.frame(2, 0), 1);
        int[] before = Look.at(x);
        x.deliver(0, 0);
        due.onlyChanged("a second copy", Look.at(x), before, "stats 6", "channelPn 0", "received 2");
        due.is("received(2)", x.received(2), true);
        due.is("read(0)", x.read(0), 7);

        // Both copies have the same byte, so that the first one stays is seen only if it is changed.
        Real y = secondCopyOnItsWay();
        Inside.of(P06DeliverTest::secondCopyOnItsWay, z -> z.read(0), 99).set(y, 99);
        y.deliver(0, 0);
        due.is("a cell with its flag keeps its byte", y.read(0), 99);
    }

    /** D follows an ACK without ranges as well; only a clock set from inside leaves it work to do. */
    private static void lossAfterAckWithoutRanges() throws ReflectiveOperationException {
        Real x = new Real(32, 128, 1, 10);
        x.sendAck();
        x.fill(0, 2, 7);
        x.lose();
        x.pass();
        x.sendAck();
        x.deliver(1, 1);
        Inside clock = Inside.of(() -> new Real(32, 128, 1, 10), y -> y.stats(QuicStreams.STAT_NOW), 10);
        clock.set(x, 10);
        due.is("before the ACK", x.packetState(0), QuicStreams.PKT_IN_FLIGHT);
        due.is("deliver(1, 0)", x.deliver(1, 0), true);
        due.is("after the ACK", x.packetState(0), QuicStreams.PKT_LOST);
        due.is("largest", x.stats(QuicStreams.STAT_LARGEST), 1);
    }

    private static void everyAckSlot() {
        for (int slot = 0; slot < 8; slot++) {
            Real x = Channels.filled(8, 0);
            x.deliver(1, slot);
            Channels.knows(due, "the ACK of slot " + slot, x, 8, slot);
            // ACKs that come in their order after it leave no trace of it but in the end.
            for (int i = 0; i < 7; i++) due.is("deliver(1, 0)", x.deliver(1, 0), true);
            due.is("largest in the end", x.stats(QuicStreams.STAT_LARGEST), 14);
            due.is("credit(1) in the end", x.credit(1), Channels.STREAM_WINDOW + 8);
            due.is("no more", x.deliver(1, 0), false);
        }
    }

    /** The same ACK again: packets that are acknowledged are left as they are. */
    private static void alreadyAcked() {
        Real x = new Real(32, 128, 1, 1000);
        x.fill(0, 4, 1);
        x.send(4);
        x.deliver(0, 3);
        x.passAck();
        x.deliver(0, 0);
        x.sendAck();
        x.sendAck();
        x.deliver(1, 0);
        due.is("spurious", x.stats(QuicStreams.STAT_SPURIOUS), 1);
        int[] before = Look.at(x);
        x.deliver(1, 0);
        due.onlyChanged("the same ACK again", Look.at(x), before, "stats 7");
    }

    /** All numbers in one range, from the least to the greatest. */
    private static void allNumbersAcked() {
        Real x = new Real(32, 128, 1, 1000);
        x.fill(0, 32, 1);
        x.fill(1, 32, 1);
        for (int i = 0; i < 64; i++) x.pass();
        due.is("ranges", x.passAck(), 1);
        for (int pn = 0; pn < 64; pn++) due.is("packetState(" + pn + ")", x.packetState(pn), QuicStreams.PKT_ACKED);
        due.is("largest", x.stats(QuicStreams.STAT_LARGEST), 63);
        due.is("lost", x.stats(QuicStreams.STAT_LOST), 0);
        due.is("done", x.streamInfo(0, QuicStreams.INFO_DONE), 32);
    }

    private static void ackWithoutRanges() {
        Real x = new Real(4, 6, 1, 1);
        x.fill(0, 4, 1);
        x.send(4);
        x.tick(5);
        int[] before = Look.at(x);
        due.is("ranges", x.passAck(), 0);
        due.same("an ACK of nothing changes nothing", Look.at(x), before);
    }

    private static void ackCarriesItsOwnTime() {
        Real x = new Real(4, 6, 1, 100);
        x.fill(0, 4, 1);
        x.pass();
        x.sendAck();
        x.pass();
        x.read(0);
        x.read(0);
        x.sendAck();
        x.sendAck();
        // The first ACK is the oldest: it knows of packet 0 alone, and of no reading.
        due.is("deliver(1, 0)", x.deliver(1, 0), true);
        due.is("packetState(0)", x.packetState(0), QuicStreams.PKT_ACKED);
        due.is("packetState(1)", x.packetState(1), QuicStreams.PKT_IN_FLIGHT);
        due.is("credit(0)", x.credit(0), 4);
        due.is("credit(4)", x.credit(4), 6);
        due.is("largest", x.stats(QuicStreams.STAT_LARGEST), 0);
        due.is("ACKs left", x.stats(QuicStreams.STAT_ACK_IN_CHANNEL), 2);
        x.deliver(1, 1);
        due.is("packetState(1)", x.packetState(1), QuicStreams.PKT_ACKED);
        due.is("credit(0)", x.credit(0), 6);
        due.is("credit(4)", x.credit(4), 8);
        due.is("done", x.streamInfo(0, QuicStreams.INFO_DONE), 2);
        due.is("outstanding", x.streamInfo(0, QuicStreams.INFO_OUTSTANDING), 0);
    }

    private static void oldAckLast() {
        Real x = new Real(4, 6, 1, 100);
        x.fill(0, 4, 1);
        x.sendAck();
        x.pass();
        x.read(0);
        x.sendAck();
        x.deliver(1, 1);
        due.is("credit(0)", x.credit(0), 5);
        due.is("largest", x.stats(QuicStreams.STAT_LARGEST), 0);
        int[] before = Look.at(x);
        x.deliver(1, 0);
        before[Look.NAMES.indexOf("stats 7")] = 0;
        due.same("an older ACK without ranges lowers nothing", Look.at(x), before);
    }

    private static void olderLargestStays() {
        Real x = new Real(32, 128, 1, 100);
        x.fill(0, 4, 1);
        x.pass();
        x.sendAck();
        x.pass();
        x.sendAck();
        x.deliver(1, 1);
        x.deliver(1, 0);
        due.is("largest", x.stats(QuicStreams.STAT_LARGEST), 1);
        due.is("spurious", x.stats(QuicStreams.STAT_SPURIOUS), 0);
        due.is("done", x.streamInfo(0, QuicStreams.INFO_DONE), 2);
    }

    private static void manyRanges() {
        Real x = new Real(32, 128, 1, 1000);
        x.fill(0, 32, 1);
        for (int i = 0; i < 9; i++) {
            if (i % 2 == 0) x.pass(); else x.lose();
        }
        due.is("ranges", x.passAck(), 4);
        // Packet 0 was handed over, but its run did not fit into the ACK.
        int[] want = {3, 3, 2, 3, 2, 3, 2, 1, 2};
        for (int pn = 0; pn < 9; pn++) due.is("packetState(" + pn + ")", x.packetState(pn), want[pn]);
        due.is("lost", x.stats(QuicStreams.STAT_LOST), 4);
        due.is("largest", x.stats(QuicStreams.STAT_LARGEST), 8);
        due.is("pending", x.streamInfo(0, QuicStreams.INFO_PENDING), 32 - 9 + 4);
    }

    /** Packet 0 is declared lost while it is only late; its ACK comes after all. */
    private static void spurious() {
        Real x = new Real(32, 128, 2, 1000);
        x.fill(0, 8, 60);
        x.send(4);
        x.deliver(0, 3);
        x.passAck();
        due.is("packetState(0)", x.packetState(0), QuicStreams.PKT_LOST);
        due.is("packetState(1)", x.packetState(1), QuicStreams.PKT_IN_FLIGHT);
        due.is("pending", x.streamInfo(0, QuicStreams.INFO_PENDING), 2);
        due.is("sent again", x.sendData(), 4);
        due.is("frame(4, 0)", x.frame(4, 0), 2);
        due.is("outstanding", x.streamInfo(0, QuicStreams.INFO_OUTSTANDING), 6);
        x.deliver(0, 0);
        x.passAck();
        due.is("packetState(0) in the end", x.packetState(0), QuicStreams.PKT_ACKED);
        due.is("spurious", x.stats(QuicStreams.STAT_SPURIOUS), 1);
        due.is("lost stays", x.stats(QuicStreams.STAT_LOST), 1);
        due.is("done", x.streamInfo(0, QuicStreams.INFO_DONE), 4);
        due.is("outstanding", x.streamInfo(0, QuicStreams.INFO_OUTSTANDING), 4);
        due.is("packet 4 is still in flight", x.packetState(4), QuicStreams.PKT_IN_FLIGHT);
        x.passAck();
        due.is("spurious counts once", x.stats(QuicStreams.STAT_SPURIOUS), 1);
        due.is("nothing to send", x.sendData(), QuicStreams.SEND_NOTHING);
    }

    /** The late ACK also completes bytes that wait for their second sending. */
    private static void spuriousWhilePending() {
        Real x = new Real(32, 128, 2, 1000);
        x.fill(0, 8, 60);
        x.send(4);
        x.deliver(0, 3);
        x.passAck();
        due.is("pending", x.streamInfo(0, QuicStreams.INFO_PENDING), 2);
        x.deliver(0, 0);
        x.passAck();
        due.is("pending after the late ACK", x.streamInfo(0, QuicStreams.INFO_PENDING), 0);
        due.is("nothing to send", x.sendData(), QuicStreams.SEND_NOTHING);
    }

    public static void main(String[] args) throws ReflectiveOperationException {
        refused();
        slotsMoveDown();
        dataLeavesSender();
        creditUsedUp();
        streamViolation();
        connectionViolation();
        violationBehindGap();
        ackWithoutRanges();
        ackCarriesItsOwnTime();
        oldAckLast();
        olderLargestStays();
        manyRanges();
        spurious();
        spuriousWhilePending();
        Channels.everySlot(due, "deliver", Real::deliver);
        gapNeedsNoCredit();
        topOffsetAgainNeedsNoCredit();
        violationThenNextStream();
        greatestCreditUsedUp();
        secondCopy();
        lossAfterAckWithoutRanges();
        everyAckSlot();
        alreadyAcked();
        allNumbersAcked();
        due.finish();
    }
}
