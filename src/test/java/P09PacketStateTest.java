/** Promise 9: packetState. */
public final class P09PacketStateTest {
    public static void main(String[] args) {
        Due due = new Due();
        Real x = new Real(32, 128, 1, 1000);
        x.fill(0, 6, 1);
        x.lose();
        x.lose();
        x.lose();
        x.pass();
        x.passAck();
        x.send(1);
        int[] before = Look.at(x);
        int[] want = {QuicStreams.PKT_LOST, QuicStreams.PKT_IN_FLIGHT, QuicStreams.PKT_IN_FLIGHT,
            QuicStreams.PKT_ACKED, QuicStreams.PKT_IN_FLIGHT, QuicStreams.PKT_UNSENT};
        for (int pn = 0; pn < want.length; pn++) {
            due.is("packetState(" + pn + ")", x.packetState(pn), want[pn]);
        }
        for (int pn : new int[] {Integer.MIN_VALUE, -1, 63, 64, 65, Integer.MAX_VALUE}) {
            due.is("packetState(" + pn + ")", x.packetState(pn), QuicStreams.PKT_UNSENT);
        }
        due.same("packetState changes nothing", Look.at(x), before);

        Real y = new Real(32, 128, 1, 1000);
        y.fill(0, 32, 1);
        y.fill(1, 32, 1);
        for (int i = 0; i < 64; i++) y.pass();
        due.is("packetState(63)", y.packetState(63), QuicStreams.PKT_IN_FLIGHT);
        due.is("packetState(64)", y.packetState(64), QuicStreams.PKT_UNSENT);
        y.passAck();
        due.is("packetState(63) acknowledged", y.packetState(63), QuicStreams.PKT_ACKED);
        due.finish();
    }
}
