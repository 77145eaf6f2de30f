/** Promise 1: clamping of the arguments, and the initial state. */
public final class P01ConstructionTest {
    private static final Due due = new Due();

    private static void streamWindow(int given, int want) {
        Real x = new Real(given, 128, 8, 10);
        for (int s = 0; s < 4; s++) {
            due.is("streamWindow " + given + ": credit(" + s + ")", x.credit(s), want);
            due.is("streamWindow " + given + ": credit(" + (5 + s) + ")", x.credit(5 + s), want);
        }
        due.is("streamWindow " + given + ": credit(4)", x.credit(4), 128);
        due.is("streamWindow " + given + ": credit(9)", x.credit(9), 128);
    }

    private static void connWindow(int given, int want) {
        Real x = new Real(32, given, 8, 10);
        due.is("connWindow " + given + ": credit(4)", x.credit(4), want);
        due.is("connWindow " + given + ": credit(9)", x.credit(9), want);
        due.is("connWindow " + given + ": credit(0)", x.credit(0), 32);
        due.is("connWindow " + given + ": credit(8)", x.credit(8), 32);
    }

    private static void maxPayload(int given, int want) {
        Real x = new Real(32, 128, given, 10);
        x.fill(1, 32, 0);
        due.is("maxPayload " + given + ": sendData()", x.sendData(), 0);
        due.is("maxPayload " + given + ": frame(0, 1)", x.frame(0, 1), want);
    }

    private static void lossDelay(int given, int want) {
        Real x = new Real(32, 128, 1, given);
        x.fill(0, 2, 0);
        x.lose();
        x.pass();
        x.passAck();
        due.is("lossDelay " + given + ": packetState(0) at 0", x.packetState(0), QuicStreams.PKT_IN_FLIGHT);
        if (want > 1) {
            x.tick(want - 1);
            due.is("lossDelay " + given + ": packetState(0) before", x.packetState(0), QuicStreams.PKT_IN_FLIGHT);
        }
        x.tick(1);
        due.is("lossDelay " + given + ": packetState(0) at the delay", x.packetState(0), QuicStreams.PKT_LOST);
    }

    private static void start() {
        Real x = new Real(7, 19, 5, 50);
        for (int kind = 0; kind <= 8; kind++) {
            due.is("start: stats(" + kind + ")", x.stats(kind), kind == QuicStreams.STAT_LARGEST ? -1 : 0);
        }
        for (int s = 0; s < 4; s++) {
            for (int kind = 0; kind <= 7; kind++) {
                due.is("start: streamInfo(" + s + ", " + kind + ")", x.streamInfo(s, kind), 0);
            }
            due.is("start: credit(" + s + ")", x.credit(s), 7);
            due.is("start: credit(" + (s + 5) + ")", x.credit(s + 5), 7);
        }
        due.is("start: credit(4)", x.credit(4), 19);
        due.is("start: credit(9)", x.credit(9), 19);
        for (int pn = 0; pn < 64; pn++) {
            due.is("start: packetState(" + pn + ")", x.packetState(pn), QuicStreams.PKT_UNSENT);
            due.is("start: received(" + pn + ")", x.received(pn), false);
            due.is("start: frame(" + pn + ", 0)", x.frame(pn, 0), -1);
        }
        for (int i = 0; i < 8; i++) {
            due.is("start: ackRange(" + i + ", true)", x.ackRange(i, true), -1);
            due.is("start: channelPn(" + i + ")", x.channelPn(i), -1);
            due.is("start: deliver(0, " + i + ")", x.deliver(0, i), false);
            due.is("start: deliver(1, " + i + ")", x.deliver(1, i), false);
        }
        for (int s = 0; s < 4; s++) {
            due.is("start: read(" + s + ")", x.read(s), -1);
        }
        due.is("start: sendData()", x.sendData(), QuicStreams.SEND_NOTHING);
        due.is("start: sendAck()", x.sendAck(), 0);
    }

    private static void apart() {
        Real x = new Real(4, 8, 2, 10);
        Real y = new Real(4, 8, 2, 10);
        int[] before = Look.at(y);
        x.fill(0, 4, 1);
        x.pass();
        x.passAck();
        x.tick(5);
        due.same("calls on one object leave another alone", Look.at(y), before);
    }

    public static void main(String[] args) {
        int least = Integer.MIN_VALUE;
        int most = Integer.MAX_VALUE;
        int[][] streamWindows = {{least, 1}, {-1, 1}, {0, 1}, {1, 1}, {2, 2}, {31, 31}, {32, 32}, {33, 32}, {most, 32}};
        int[][] connWindows = {{least, 1}, {0, 1}, {1, 1}, {2, 2}, {33, 33}, {127, 127}, {128, 128}, {129, 128}, {most, 128}};
        int[][] payloads = {{least, 1}, {0, 1}, {1, 1}, {2, 2}, {7, 7}, {8, 8}, {9, 8}, {most, 8}};
        int[][] delays = {{least, 1}, {0, 1}, {1, 1}, {2, 2}, {999, 999}, {1000, 1000}, {1001, 1000}, {most, 1000}};
        for (int[] c : streamWindows) streamWindow(c[0], c[1]);
        for (int[] c : connWindows) connWindow(c[0], c[1]);
        for (int[] c : payloads) maxPayload(c[0], c[1]);
        for (int[] c : delays) lossDelay(c[0], c[1]);
        start();
        apart();
        due.finish();
    }
}
