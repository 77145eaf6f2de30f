/** The class under test behind the common face. */
final class Real implements Face {
    final QuicStreams x;

    Real(int streamWindow, int connWindow, int maxPayload, int lossDelay) {
        x = new QuicStreams(streamWindow, connWindow, maxPayload, lossDelay);
    }

    public boolean write(int stream, int value) { return x.write(stream, value); }
    public int read(int stream) { return x.read(stream); }
    public int sendData() { return x.sendData(); }
    public int sendAck() { return x.sendAck(); }
    public boolean deliver(int dir, int slot) { return x.deliver(dir, slot); }
    public boolean drop(int dir, int slot) { return x.drop(dir, slot); }
    public boolean tick(int dt) { return x.tick(dt); }
    public int packetState(int pn) { return x.packetState(pn); }
    public boolean received(int pn) { return x.received(pn); }
    public int frame(int pn, int stream) { return x.frame(pn, stream); }
    public int credit(int k) { return x.credit(k); }
    public int streamInfo(int stream, int kind) { return x.streamInfo(stream, kind); }
    public int ackRange(int index, boolean high) { return x.ackRange(index, high); }
    public int stats(int kind) { return x.stats(kind); }
    public int channelPn(int slot) { return x.channelPn(slot); }

    /** Writes count bytes, first, first+1, .., into the stream. */
    void fill(int stream, int count, int first) {
        for (int i = 0; i < count; i++) {
            x.write(stream, first + i);
        }
    }

    void send(int packets) {
        for (int i = 0; i < packets; i++) {
            x.sendData();
        }
    }

    /** Sends one packet and hands it over at once; answers its number. */
    int pass() {
        int pn = x.sendData();
        x.deliver(QuicStreams.DIR_DATA, x.stats(QuicStreams.STAT_DATA_IN_CHANNEL) - 1);
        return pn;
    }

    /** Sends one packet and loses it. */
    int lose() {
        int pn = x.sendData();
        x.drop(QuicStreams.DIR_DATA, x.stats(QuicStreams.STAT_DATA_IN_CHANNEL) - 1);
        return pn;
    }

    /** Builds an ACK and hands it over at once; answers the number of its ranges. */
    int passAck() {
        int ranges = x.sendAck();
        x.deliver(QuicStreams.DIR_ACK, x.stats(QuicStreams.STAT_ACK_IN_CHANNEL) - 1);
        return ranges;
    }
}
