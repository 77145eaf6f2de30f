/** Promise 11: frame. */
public final class P11FrameTest {
    public static void main(String[] args) {
        Due due = new Due();
        Real x = new Real(32, 128, 8, 10);
        x.fill(0, 3, 1);
        x.fill(2, 32, 1);
        x.send(5);
        int[] before = Look.at(x);
        int[][] want = {{3, -1, 5, -1}, {-1, -1, 5 * 16 + 8, -1}, {-1, -1, 13 * 16 + 8, -1},
            {-1, -1, 21 * 16 + 8, -1}, {-1, -1, 29 * 16 + 3, -1}, {-1, -1, -1, -1}};
        for (int pn = 0; pn < want.length; pn++) {
            for (int s = 0; s < 4; s++) {
                due.is("frame(" + pn + ", " + s + ")", x.frame(pn, s), want[pn][s]);
            }
        }
        for (int pn : new int[] {Integer.MIN_VALUE, -1, 5, 63, 64, Integer.MAX_VALUE}) {
            due.is("frame(" + pn + ", 2)", x.frame(pn, 2), -1);
        }
        for (int s : new int[] {Integer.MIN_VALUE, -1, 4, 6, Integer.MAX_VALUE}) {
            due.is("frame(0, " + s + ")", x.frame(0, s), -1);
            due.is("frame(1, " + s + ")", x.frame(1, s), -1);
        }
        due.same("frame changes nothing", Look.at(x), before);

        // Packets 0 and 1 become lost, 2 and 3 stay in flight, 4 is acknowledged: all keep their frames.
        x.deliver(0, 4);
        x.passAck();
        due.is("packetState(0)", x.packetState(0), QuicStreams.PKT_LOST);
        due.is("packetState(4)", x.packetState(4), QuicStreams.PKT_ACKED);
        x.send(2);
        for (int pn = 0; pn < 5; pn++) {
            for (int s = 0; s < 4; s++) {
                due.is("frame(" + pn + ", " + s + ") later", x.frame(pn, s), want[pn][s]);
            }
        }

        // All numbers used: 63 is the last one with a frame, and behind it there is nothing to look at.
        Real y = new Real(32, 128, 1, 1000);
        y.fill(0, 32, 1);
        y.fill(3, 32, 1);
        for (int i = 0; i < 64; i++) y.pass();
        due.is("frame(0, 0)", y.frame(0, 0), 1);
        due.is("frame(31, 0)", y.frame(31, 0), 31 * 16 + 1);
        due.is("frame(32, 0)", y.frame(32, 0), -1);
        due.is("frame(63, 3)", y.frame(63, 3), 31 * 16 + 1);
        for (int s = -1; s <= 4; s++) {
            due.is("frame(64, " + s + ")", y.frame(64, s), -1);
            due.is("frame(-1, " + s + ")", y.frame(-1, s), -1);
        }
        due.is("frame(0, 4)", y.frame(0, 4), -1);
        due.is("frame(63, 4)", y.frame(63, 4), -1);
        due.is("frame(63, -1)", y.frame(63, -1), -1);
        due.finish();
    }
}
