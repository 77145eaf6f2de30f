/** Promise 1: clamping of the arguments, and the initial state. */
public final class P01ConstructionTest {
    private static final Due due = new Due();

    private static void streamWindow(int given, int want) {
        Real x = new Real(given, 128, 8, 10);
        for (int s = 0; s < 4; s++) {
            due.is("streamWindow " + given + ": credit(" + s + ")", x.credit(s), want);
            due.is("streamWindow " + given + ": credit(" + (5 + s) + ")", x.credit(5 + s), want);
        }
        due.is("streamWindow " + given + ": credit(4)", x.credit(4), 128);
        due.is("streamWindow " + given + ": credit(9)", x.credit(9), 128);
    }

    private static void connWindow(int given, int want) {
        Real x = new Real(32, given, 8, 10);
        due.is("connWindow " + given + ": credit(4)", x.credit(4), want);
        due.is("connWindow " + given + ": credit(9)", x.credit(9), want);
        due.is("connWindow " + given + ": credit(0)", x.credit(0), 32);
        due.is("connWindow " + given + ": credit(8)", x.credit(8), 32);
    }

    private static void maxPayload(int given, int want) {
        Real x = new Real(32, 128, given, 10);
        x.fill(1, 32, 0);
        due.is("maxPayload " + given + ": sendData()", x.sendData(), 0);
        due.is("maxPayload " + given + ": frame(0, 1)", x.frame(0, 1), want);
    }

    private static void lossDelay(int given, int want) {
        Real x = new Real(32, 128, 1, given);
        x.fill(0, 2, 0);
        x.lose();
        x.pass();
        x.passAck();
        due.is("lossDelay " + given + ": packetState(0) at 0", x.packetState(0), QuicStreams.PKT_IN_FLIGHT);
        if (want > 1) {
            x.tick(want - 1);
            due.is("lossDelay " + given + ": packetState(0) before", x.packetState(0), QuicStreams.PKT_IN_FLIGHT);
        }
        x.tick(1);
        due.is("lossDelay " + given + ": packetState(0) at the delay", x.packetState(0), QuicStreams.PKT_LOST);
    }

    /** All four arguments beyond the same end at once. */
    private static void together(int given, int window, int conn, int payload, int delay) {
        Real x = new Real(given, given, given, given);
        Real y = new Real(window, conn, payload, delay);
        String all = "all arguments " + given;
        due.same(all, Look.at(x), Look.at(y));
        for (int k = 0; k < 10; k++) due.is(all + ": credit(" + k + ")", x.credit(k), k % 5 == 4 ? conn : window);
        for (Real z : new Real[] {x, y}) {
            z.fill(2, 32, 1);
            z.pass();
            z.read(2);
            z.passAck();
            z.lose();
            z.pass();
            z.passAck();
        }
        due.same(all + ", in use", Look.at(x), Look.at(y));
        if (delay > 1) {
            x.tick(delay - 1);
            y.tick(delay - 1);
            due.same(all + ", before the delay", Look.at(x), Look.at(y));
        }
        x.tick(1);
        y.tick(1);
        due.same(all + ", at the delay", Look.at(x), Look.at(y));
    }

    /** sendAck, too, reckons with the clamped windows and not with the given ones. */
    private static void clampedInSendAck() {
        Real x = new Real(-5, -5, 8, 10);
        x.fill(3, 2, 1);
        x.pass();
        due.is("one byte is let through", x.frame(0, 3), 1);
        x.read(3);
        x.sendAck();
        due.is("windows -5: credit(8)", x.credit(8), 2);
        due.is("windows -5: credit(5)", x.credit(5), 1);
        due.is("windows -5: credit(9)", x.credit(9), 2);
        Real y = new Real(99, 999, 8, 10);
        y.fill(3, 2, 1);
        y.pass();
        y.read(3);
        y.sendAck();
        due.is("windows too large: credit(8)", y.credit(8), 32);
        due.is("windows too large: credit(9)", y.credit(9), 128);
    }

    private static void start() {
        Real x = new Real(7, 19, 5, 50);
        for (int kind = 0; kind <= 8; kind++) {
            due.is("start: stats(" + kind + ")", x.stats(kind), kind == QuicStreams.STAT_LARGEST ? -1 : 0);
        }
        for (int s = 0; s < 4; s++) {
            for (int kind = 0; kind <= 7; kind++) {
                due.is("start: streamInfo(" + s + ", " + kind + ")", x.streamInfo(s, kind), 0);
            }
            due.is("start: credit(" + s + ")", x.credit(s), 7);
            due.is("start: credit(" + (s + 5) + ")", x.credit(s + 5), 7);
        }
        due.is("start: credit(4)", x.credit(4), 19);
        due.is("start: credit(9)", x.credit(9), 19);
        for (int pn = 0; pn < 64; pn++) {
            due.is("start: packetState(" + pn + ")", x.packetState(pn), QuicStreams.PKT_UNSENT);
            due.is("start: received(" + pn + ")", x.received(pn), false);
            due.is("start: frame(" + pn + ", 0)", x.frame(pn, 0), -1);
        }
        for (int i = 0; i < 8; i++) {
            due.is("start: ackRange(" + i + ", true)", x.ackRange(i, true), -1);
            due.is("start: channelPn(" + i + ")", x.channelPn(i), -1);
            due.is("start: deliver(0, " + i + ")", x.deliver(0, i), false);
            due.is("start: deliver(1, " + i + ")", x.deliver(1, i), false);
        }
        for (int s = 0; s < 4; s++) {
            due.is("start: read(" + s + ")", x.read(s), -1);
        }
        due.is("start: sendData()", x.sendData(), QuicStreams.SEND_NOTHING);
        due.is("start: sendAck()", x.sendAck(), 0);
    }

    private static void apart() {
        Real x = new Real(4, 8, 2, 10);
        Real y = new Real(4, 8, 2, 10);
        int[] before = Look.at(y);
        x.fill(0, 4, 1);
        x.pass();
        x.passAck();
        x.tick(5);
        due.same("calls on one object leave another alone", Look.at(y), before);
    }

    public static void main(String[] args) {
        int least = Integer.MIN_VALUE;
        int most = Integer.MAX_VALUE;
        int[][] streamWindows = {{least, 1}, {-1, 1}, {0, 1}, {1, 1}, {2, 2}, {31, 31}, {32, 32}, {33, 32}, {most, 32}};
        int[][] connWindows = {{least, 1}, {0, 1}, {1, 1}, {2, 2}, {33, 33}, {127, 127}, {128, 128}, {129, 128}, {most, 128}};
        int[][] payloads = {{least, 1}, {0, 1}, {1, 1}, {2, 2}, {7, 7}, {8, 8}, {9, 8}, {most, 8}};
        int[][] delays = {{least, 1}, {0, 1}, {1, 1}, {2, 2}, {999, 999}, {1000, 1000}, {1001, 1000}, {most, 1000}};
        for (int[] c : streamWindows) streamWindow(c[0], c[1]);
        for (int[] c : connWindows) connWindow(c[0], c[1]);
        for (int[] c : payloads) maxPayload(c[0], c[1]);
        for (int[] c : delays) lossDelay(c[0], c[1]);
        together(least, 1, 1, 1, 1);
        together(0, 1, 1, 1, 1);
        together(1001, 32, 128, 8, 1000);
        together(most, 32, 128, 8, 1000);
        clampedInSendAck();
        start();
        apart();
        due.finish();
    }
}
