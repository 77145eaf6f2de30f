/** Promise 7: drop. */
public final class P07DropTest {
    private static final Due due = new Due();

    private static void refused() {
        Real x = new Real(32, 128, 1, 100);
        x.fill(0, 3, 1);
        due.is("empty: drop(0, 0)", x.drop(0, 0), false);
        due.is("empty: drop(1, 0)", x.drop(1, 0), false);
        x.send(2);
        x.sendAck();
        int[] before = Look.at(x);
        for (int dir : new int[] {Integer.MIN_VALUE, -1, 2, Integer.MAX_VALUE}) {
            due.is("drop(" + dir + ", 0)", x.drop(dir, 0), false);
        }
        for (int slot : new int[] {Integer.MIN_VALUE, -1, 2, 8, Integer.MAX_VALUE}) {
            due.is("drop(0, " + slot + ")", x.drop(0, slot), false);
            due.is("drop(1, " + slot + ")", x.drop(1, slot), false);
        }
        due.is("drop(1, 1)", x.drop(1, 1), false);
        due.same("a refused drop changes nothing", Look.at(x), before);
    }

    private static void data() {
        Real x = new Real(32, 128, 1, 100);
        x.fill(0, 8, 1);
        x.send(8);
        due.is("drop(0, 0)", x.drop(0, 0), true);
        due.is("drop(0, 3)", x.drop(0, 3), true);
        due.is("drop(0, 5)", x.drop(0, 5), true);
        int[] want = {1, 2, 3, 5, 6, -1};
        for (int i = 0; i < want.length; i++) due.is("channelPn(" + i + ")", x.channelPn(i), want[i]);
        due.is("count", x.stats(QuicStreams.STAT_DATA_IN_CHANNEL), 5);
        for (int pn : new int[] {0, 4, 7}) {
            due.is("packetState(" + pn + ")", x.packetState(pn), QuicStreams.PKT_IN_FLIGHT);
            due.is("received(" + pn + ")", x.received(pn), false);
        }
        due.is("lost", x.stats(QuicStreams.STAT_LOST), 0);
        due.is("outstanding", x.streamInfo(0, QuicStreams.INFO_OUTSTANDING), 8);
        due.is("received bytes", x.streamInfo(0, QuicStreams.INFO_RECEIVED), 0);
    }

    /** Three ACKs with 0, 1 and 2 packets known; the middle one is dropped, then the first. */
    private static void acks() {
        Real x = new Real(4, 6, 1, 100);
        x.fill(0, 3, 1);
        x.sendAck();
        x.pass();
        x.sendAck();
        x.lose();
        x.pass();
        x.read(0);
        x.sendAck();
        due.is("drop(1, 1)", x.drop(1, 1), true);
        due.is("count", x.stats(QuicStreams.STAT_ACK_IN_CHANNEL), 2);
        due.is("packetState(0)", x.packetState(0), QuicStreams.PKT_IN_FLIGHT);
        due.is("largest", x.stats(QuicStreams.STAT_LARGEST), -1);
        due.is("the last built ACK stays", x.ackRange(0, true), 2);
        due.is("drop(1, 0)", x.drop(1, 0), true);
        due.is("deliver(1, 0)", x.deliver(1, 0), true);
        due.is("packetState(0)", x.packetState(0), QuicStreams.PKT_ACKED);
        due.is("packetState(1)", x.packetState(1), QuicStreams.PKT_IN_FLIGHT);
        due.is("packetState(2)", x.packetState(2), QuicStreams.PKT_ACKED);
        due.is("credit(0)", x.credit(0), 5);
        due.is("credit(4)", x.credit(4), 7);
        due.is("count", x.stats(QuicStreams.STAT_ACK_IN_CHANNEL), 0);
    }

    /** Whatever ACK is dropped, each of the others is still whole in the slot that it moved to. */
    private static void everyAckSlot() {
        for (int out = 0; out < 8; out++) {
            for (int slot = 0; slot < 7; slot++) {
                Real x = Channels.filled(8, 0);
                x.drop(1, out);
                x.deliver(1, slot);
                String when = "ACK " + out + " dropped, slot " + slot + " delivered";
                Channels.knows(due, when, x, 8, slot < out ? slot : slot + 1);
            }
        }
    }

    /** From the first slot and the last of a full channel: the packet is gone, and nothing else. */
    private static void nothingElse() {
        for (int slot : new int[] {0, 7}) {
            Real x = Channels.filled(8, 8);
            int[] before = Look.at(x);
            x.drop(1, slot);
            due.onlyChanged("drop(1, " + slot + ")", Look.at(x), before, "stats 7");
            before = Look.at(x);
            x.drop(0, slot);
            due.onlyChanged("drop(0, " + slot + ")", Look.at(x), before, "stats 6", "channelPn 0", "channelPn 1",
                "channelPn 2", "channelPn 3", "channelPn 4", "channelPn 5", "channelPn 6", "channelPn 7");
        }
    }

    /** Dropping makes room: a full channel takes one packet again, at its end. */
    private static void roomAgain() {
        Real x = Channels.filled(8, 8);
        x.fill(3, 2, 1);
        due.is("full DATA", x.sendData(), QuicStreams.SEND_CHANNEL_FULL);
        due.is("full ACK", x.sendAck(), -1);
        x.drop(0, 4);
        x.drop(1, 4);
        due.is("sendData()", x.sendData(), 24);
        due.is("channelPn(7)", x.channelPn(7), 24);
        due.is("sendAck()", x.sendAck(), 4);
        due.is("full DATA again", x.sendData(), QuicStreams.SEND_CHANNEL_FULL);
        due.is("full ACK again", x.sendAck(), -1);
    }

    public static void main(String[] args) {
        refused();
        data();
        acks();
        Channels.everySlot(due, "drop", Real::drop);
        everyAckSlot();
        nothingElse();
        roomAgain();
        due.finish();
    }
}
