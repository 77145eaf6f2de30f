/** Objects with filled channels, and what is due when a packet is taken out of any slot of them. */
final class Channels {
    static final int STREAM_WINDOW = 10;
    static final int CONN_WINDOW = 40;
    private static final int[][] FILLINGS = {{0, 0}, {0, 1}, {1, 0}, {1, 1}, {0, 8}, {8, 0}, {3, 5}, {5, 3}, {8, 8}};
    private static final int[] SLOTS = {Integer.MIN_VALUE, -8, -1, 0, 1, 2, 3, 4, 5, 6, 7, 8, 9, Integer.MAX_VALUE};
    private static final int[] DIRS = {Integer.MIN_VALUE, -1, 0, 1, 2, Integer.MAX_VALUE};

    private Channels() { }

    /** A call that takes a packet out of a channel: deliver or drop. */
    interface Taking {
        boolean take(Real x, int dir, int slot);
    }

    /**
     * Every ACK differs from the others: before ACK number i packet 2i arrives and its byte is read,
     * and behind it packet 2i+1 is lost. Then data packets are put into the DATA channel.
     */
    static Real filled(int acks, int data) {
        Real x = new Real(STREAM_WINDOW, CONN_WINDOW, 1, 1000);
        for (int i = 0; i < acks; i++) {
            x.write(1, i);
            x.pass();
            x.read(1);
            x.sendAck();
            x.write(0, i);
            x.lose();
        }
        x.fill(2, data, 1);
        x.send(data);
        return x;
    }

    /** What S must know when ACK number i, and no other, came to it out of filled(acks, ..). */
    static void knows(Due due, String when, Real x, int acks, int i) {
        for (int pn = 0; pn < 2 * acks; pn++) {
            boolean carried = pn % 2 == 0 && pn <= 2 * i && pn >= 2 * i - 6;
            int late = pn <= 2 * i - 3 ? QuicStreams.PKT_LOST : QuicStreams.PKT_IN_FLIGHT;
            due.is(when + ": packetState(" + pn + ")", x.packetState(pn), carried ? QuicStreams.PKT_ACKED : late);
        }
        due.is(when + ": largest", x.stats(QuicStreams.STAT_LARGEST), 2 * i);
        due.is(when + ": credit(1)", x.credit(1), STREAM_WINDOW + i + 1);
        due.is(when + ": credit(0)", x.credit(0), STREAM_WINDOW);
        due.is(when + ": credit(4)", x.credit(4), CONN_WINDOW + i + 1);
    }

    /** Each slot and direction, wrong ones with them, on channels that are empty, full and in between. */
    static void everySlot(Due due, String name, Taking taking) {
        for (int[] f : FILLINGS) {
            for (int dir : DIRS) {
                for (int slot : SLOTS) {
                    String call = f[0] + " ACKs, " + f[1] + " DATA: " + name + "(" + dir + ", " + slot + ")";
                    Real x = filled(f[0], f[1]);
                    int[] before = Look.at(x);
                    int count = dir == 0 ? f[1] : dir == 1 ? f[0] : 0;
                    boolean there = slot >= 0 && slot < count;
                    due.is(call, taking.take(x, dir, slot), there);
                    if (there) {
                        left(due, call, x, f, dir, slot);
                    } else {
                        due.same(call + " changes nothing", Look.at(x), before);
                    }
                }
            }
        }
    }

    private static void left(Due due, String call, Real x, int[] filling, int dir, int slot) {
        int data = filling[1] - (dir == 0 ? 1 : 0);
        due.is(call + ": DATA", x.stats(QuicStreams.STAT_DATA_IN_CHANNEL), data);
        due.is(call + ": ACKs", x.stats(QuicStreams.STAT_ACK_IN_CHANNEL), filling[0] - dir);
        for (int i = 0; i <= 8; i++) {
            int pn = 2 * filling[0] + i + (dir == 0 && i >= slot ? 1 : 0);
            due.is(call + ": channelPn(" + i + ")", x.channelPn(i), i < data ? pn : -1);
        }
    }
}
