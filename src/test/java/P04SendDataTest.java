/** Promise 4: sendData. */
public final class P04SendDataTest {
    private static final Due due = new Due();

    private static void streamsInOrder() {
        Real x = new Real(32, 128, 6, 100);
        x.fill(3, 2, 30);
        x.fill(1, 3, 10);
        x.fill(0, 2, 1);
        x.tick(9);
        due.is("sendData()", x.sendData(), 0);
        due.is("frame(0, 0)", x.frame(0, 0), 2);
        due.is("frame(0, 1)", x.frame(0, 1), 3);
        due.is("frame(0, 2)", x.frame(0, 2), -1);
        due.is("frame(0, 3)", x.frame(0, 3), 1);
        due.is("state", x.packetState(0), QuicStreams.PKT_IN_FLIGHT);
        due.is("in channel", x.channelPn(0), 0);
        due.is("pending on 3", x.streamInfo(3, QuicStreams.INFO_PENDING), 1);
        due.is("outstanding on 3", x.streamInfo(3, QuicStreams.INFO_OUTSTANDING), 1);
        due.is("high on 3", x.streamInfo(3, QuicStreams.INFO_HIGH), 1);
        due.is("sendData()", x.sendData(), 1);
        due.is("frame(1, 3)", x.frame(1, 3), 16 + 1);
        due.is("last in channel", x.channelPn(1), 1);
        due.is("next", x.stats(QuicStreams.STAT_NEXT_PN), 2);
        due.is("now", x.stats(QuicStreams.STAT_NOW), 9);
        int[] before = Look.at(x);
        due.is("sendData() with nothing pending", x.sendData(), QuicStreams.SEND_NOTHING);
        due.same("nothing to send changes nothing", Look.at(x), before);
    }

    private static void budgetEndsPacket() {
        Real x = new Real(32, 128, 3, 100);
        x.fill(0, 3, 1);
        x.fill(1, 1, 1);
        x.send(1);
        due.is("frame(0, 0)", x.frame(0, 0), 3);
        due.is("frame(0, 1)", x.frame(0, 1), -1);
        due.is("high of 1", x.streamInfo(1, QuicStreams.INFO_HIGH), 0);
    }

    private static void streamCredit() {
        Real x = new Real(2, 128, 8, 100);
        x.fill(0, 5, 1);
        x.fill(2, 1, 9);
        x.send(1);
        due.is("two bytes of stream 0", x.frame(0, 0), 2);
        due.is("stream 2 goes on", x.frame(0, 2), 1);
        x.fill(3, 1, 9);
        x.send(1);
        due.is("a stream without credit is passed over", x.frame(1, 0), -1);
        due.is("stream 3 goes on", x.frame(1, 3), 1);
        due.is("then nothing", x.sendData(), QuicStreams.SEND_NOTHING);
    }

    private static void connectionCredit() {
        Real x = new Real(32, 5, 8, 100);
        x.fill(0, 3, 1);
        x.fill(1, 4, 1);
        x.fill(2, 1, 1);
        x.send(1);
        due.is("three bytes of stream 0", x.frame(0, 0), 3);
        due.is("two bytes of stream 1", x.frame(0, 1), 2);
        due.is("none of stream 2", x.frame(0, 2), -1);
        due.is("then nothing", x.sendData(), QuicStreams.SEND_NOTHING);
    }

    /** Packet 0 (offsets 0..1) is lost while all connection credit is used: it may go again. */
    private static void resendWithoutCredit() {
        Real x = new Real(32, 4, 2, 10);
        x.fill(0, 6, 1);
        x.lose();
        x.pass();
        due.is("credit is used", x.sendData(), QuicStreams.SEND_NOTHING);
        x.passAck();
        x.tick(10);
        due.is("packet 0 is lost", x.packetState(0), QuicStreams.PKT_LOST);
        due.is("sendData()", x.sendData(), 2);
        due.is("the same bytes again", x.frame(2, 0), 2);
        due.is("high stays", x.streamInfo(0, QuicStreams.INFO_HIGH), 4);
        due.is("no credit for more", x.sendData(), QuicStreams.SEND_NOTHING);
        x.deliver(0, 0);
        for (int i = 0; i < 4; i++) due.is("read " + i, x.read(0), 1 + i);
    }

    /** A frame goes from offsets sent before into new ones only as far as the credit reaches. */
    private static void resendRunsIntoCredit() {
        Real x = new Real(32, 5, 2, 10);
        x.fill(0, 8, 1);
        x.fill(1, 1, 1);
        x.lose();
        x.lose();
        due.is("the fifth byte", x.pass(), 2);
        due.is("frame(2, 0)", x.frame(2, 0), 4 * 16 + 1);
        x.passAck();
        x.tick(10);
        due.is("pending", x.streamInfo(0, QuicStreams.INFO_PENDING), 7);
        due.is("frame 3", x.sendData(), 3);
        due.is("frame(3, 0)", x.frame(3, 0), 2);
        due.is("frame 4", x.sendData(), 4);
        due.is("a done offset ends the frame", x.frame(4, 0), 2 * 16 + 2);
        due.is("offset 5 has no credit, stream 1 neither", x.sendData(), QuicStreams.SEND_NOTHING);
    }

    /** Lost offsets 0 and 2 have offset 1 done between them, so they need two packets. */
    private static void gapEndsFrame() {
        Real x = new Real(32, 128, 1, 10);
        x.fill(0, 3, 1);
        x.lose();
        x.pass();
        x.lose();
        x.fill(1, 1, 50);
        x.pass();
        x.passAck();
        x.tick(10);
        due.is("pending", x.streamInfo(0, QuicStreams.INFO_PENDING), 2);
        x.send(2);
        due.is("frame(4, 0)", x.frame(4, 0), 1);
        due.is("frame(5, 0)", x.frame(5, 0), 2 * 16 + 1);

        Real y = new Real(32, 128, 8, 10);
        y.fill(0, 2, 1);
        y.lose();
        y.fill(0, 2, 3);
        y.pass();
        y.passAck();
        y.tick(10);
        y.fill(0, 2, 5);
        y.send(1);
        due.is("only the run before the gap", y.frame(2, 0), 2);
        y.send(1);
        due.is("then the run behind it", y.frame(3, 0), 4 * 16 + 2);
    }

    private static void channelFull() {
        Real x = new Real(32, 128, 1, 10);
        x.fill(0, 32, 1);
        for (int i = 0; i < 8; i++) due.is("sendData() " + i, x.sendData(), i);
        int[] before = Look.at(x);
        due.is("ninth sendData()", x.sendData(), QuicStreams.SEND_CHANNEL_FULL);
        due.same("a full channel changes nothing", Look.at(x), before);
        x.drop(0, 3);
        due.is("room again", x.sendData(), 8);
        due.is("put last", x.channelPn(7), 8);
        Real y = new Real(32, 8, 1, 10);
        y.fill(0, 8, 1);
        y.send(8);
        due.is("full goes before nothing", y.sendData(), QuicStreams.SEND_CHANNEL_FULL);
    }

    private static void noNumbers() {
        Real x = new Real(32, 128, 1, 10);
        for (int s = 0; s < 4; s++) x.fill(s, 32, 1);
        for (int pn = 0; pn < 56; pn++) due.is("pass", x.pass(), pn);
        for (int pn = 56; pn < 64; pn++) due.is("sendData()", x.sendData(), pn);
        due.is("in channel", x.stats(QuicStreams.STAT_DATA_IN_CHANNEL), 8);
        int[] before = Look.at(x);
        due.is("no numbers goes before a full channel", x.sendData(), QuicStreams.SEND_NO_NUMBERS);
        due.same("no numbers changes nothing", Look.at(x), before);
        x.deliver(0, 0);
        due.is("no numbers with room in the channel", x.sendData(), QuicStreams.SEND_NO_NUMBERS);
        due.is("next", x.stats(QuicStreams.STAT_NEXT_PN), 64);
    }

    private static void noNumbersBeforeNothing() {
        Real x = new Real(32, 128, 1, 10);
        x.fill(0, 32, 1);
        x.fill(1, 32, 1);
        for (int i = 0; i < 64; i++) x.pass();
        due.is("no numbers goes before nothing", x.sendData(), QuicStreams.SEND_NO_NUMBERS);
    }

    private static void allStreamsSent() {
        Real x = new Real(32, 128, 8, 10);
        for (int s = 0; s < 4; s++) x.fill(s, 32, 1);
        for (int i = 0; i < 16; i++) due.is("pass", x.pass(), i);
        int[] before = Look.at(x);
        due.is("every byte of every stream is sent", x.sendData(), QuicStreams.SEND_NOTHING);
        due.same("nothing to send changes nothing", Look.at(x), before);
    }

    private static void nothing(String when, Real x) {
        int[] before = Look.at(x);
        due.is(when, x.sendData(), QuicStreams.SEND_NOTHING);
        due.same(when + ", and nothing has changed", Look.at(x), before);
    }

    private static void leastWindows() {
        Real both = new Real(1, 1, 8, 100);
        nothing("a new object has nothing to send", both);
        both.fill(0, 3, 1);
        both.fill(1, 3, 1);
        both.send(1);
        due.is("one byte in all", both.frame(0, 0), 1);
        due.is("none of stream 1", both.frame(0, 1), -1);
        nothing("both credits are used", both);

        Real stream = new Real(1, 128, 8, 100);
        for (int s = 0; s < 4; s++) stream.fill(s, 3, 1);
        stream.send(1);
        for (int s = 0; s < 4; s++) due.is("one byte of stream " + s, stream.frame(0, s), 1);
        nothing("the stream credits are used", stream);

        Real conn = new Real(32, 1, 8, 100);
        conn.fill(3, 3, 1);
        conn.send(1);
        due.is("one byte of stream 3", conn.frame(0, 3), 1);
        conn.fill(0, 1, 1);
        nothing("the connection credit is used", conn);
    }

    /** After a SEND_NOTHING the same number goes to the next packet, with that packet's frames alone. */
    private static void nothingLeavesTheNumber() {
        Real x = new Real(2, 128, 8, 100);
        x.fill(1, 4, 1);
        x.pass();
        nothing("the stream credit is used", x);
        x.read(1);
        x.passAck();
        due.is("sendData() with one more credit", x.sendData(), 1);
        due.is("frame(1, 1)", x.frame(1, 1), 2 * 16 + 1);
        for (int s : new int[] {0, 2, 3}) due.is("frame(1, " + s + ")", x.frame(1, s), -1);
        nothing("it is used again", x);
    }

    /** No connection credit is left: new bytes of stream 0 stay, lost ones of stream 1 go again. */
    private static void resendBehindBlockedStream() {
        Real x = new Real(32, 4, 2, 10);
        x.fill(1, 2, 7);
        x.lose();
        x.fill(2, 2, 9);
        x.pass();
        x.passAck();
        x.tick(10);
        x.fill(0, 3, 1);
        due.is("sendData()", x.sendData(), 2);
        due.is("frame(2, 0)", x.frame(2, 0), -1);
        due.is("frame(2, 1)", x.frame(2, 1), 2);
        due.is("high of 0", x.streamInfo(0, QuicStreams.INFO_HIGH), 0);
        due.is("pending of 0", x.streamInfo(0, QuicStreams.INFO_PENDING), 3);
        nothing("only stream 0 is left", x);
    }

    private static Real lostThenMore(int streamWindow, int connWindow) {
        Real x = new Real(streamWindow, connWindow, 8, 10);
        x.fill(0, 2, 1);
        x.lose();
        x.fill(1, 1, 1);
        x.pass();
        x.passAck();
        x.tick(10);
        x.fill(0, 5, 3);
        x.send(1);
        return x;
    }

    /** Offsets 0 and 1 go again, and new ones follow in the same frame until something ends it. */
    private static void resendGoesOnIntoNewOffsets() {
        Real conn = lostThenMore(32, 5);
        due.is("until the connection credit ends", conn.frame(2, 0), 4);
        due.is("high", conn.streamInfo(0, QuicStreams.INFO_HIGH), 4);
        nothing("the connection credit is used", conn);
        Real stream = lostThenMore(3, 128);
        due.is("until the stream credit ends", stream.frame(2, 0), 3);
        due.is("high", stream.streamInfo(0, QuicStreams.INFO_HIGH), 3);
        nothing("the stream credit is used", stream);
        Real free = lostThenMore(32, 128);
        due.is("until the stream ends", free.frame(2, 0), 7);
        due.is("high", free.streamInfo(0, QuicStreams.INFO_HIGH), 7);
        nothing("all is sent", free);
    }

    private static void lastOffset() {
        for (int s = 0; s < 4; s++) {
            Real one = new Real(32, 128, 1, 100);
            one.fill(s, 32, 1);
            for (int i = 0; i < 32; i++) one.pass();
            due.is("frame(31, " + s + ") of one byte", one.frame(31, s), 31 * 16 + 1);
            due.is("high", one.streamInfo(s, QuicStreams.INFO_HIGH), 32);
            nothing("stream " + s + " is sent whole", one);
            Real eight = new Real(32, 128, 8, 100);
            eight.fill(s, 32, 1);
            for (int i = 0; i < 4; i++) eight.pass();
            due.is("frame(3, " + s + ") of eight bytes", eight.frame(3, s), 24 * 16 + 8);
            nothing("stream " + s + " is sent whole in four", eight);
        }
    }

    private static void leastAndGreatestPayload() {
        Real one = new Real(32, 128, 1, 100);
        for (int s = 0; s < 4; s++) one.fill(s, 1, 1);
        one.send(4);
        for (int pn = 0; pn < 4; pn++) {
            for (int s = 0; s < 4; s++) due.is("frame(" + pn + ", " + s + ")", one.frame(pn, s), pn == s ? 1 : -1);
        }
        Real eight = new Real(32, 128, 8, 100);
        for (int s = 0; s < 4; s++) eight.fill(s, 3, 1);
        eight.send(2);
        int[][] want = {{3, 3, 2, -1}, {-1, -1, 2 * 16 + 1, 3}};
        for (int pn = 0; pn < 2; pn++) {
            for (int s = 0; s < 4; s++) due.is("eight: frame(" + pn + ", " + s + ")", eight.frame(pn, s), want[pn][s]);
        }
    }

    /** Delivered but unacknowledged packets hold no place: only what is in the channel counts. */
    private static void fullByTheChannelAlone() {
        Real x = new Real(32, 128, 1, 100);
        x.fill(0, 32, 1);
        x.send(8);
        int[] before = Look.at(x);
        due.is("eight in the channel", x.sendData(), QuicStreams.SEND_CHANNEL_FULL);
        due.same("a full channel changes nothing", Look.at(x), before);
        x.deliver(0, 7);
        due.is("one delivered", x.sendData(), 8);
        due.is("full again", x.sendData(), QuicStreams.SEND_CHANNEL_FULL);
        for (int i = 0; i < 8; i++) x.sendAck();
        x.drop(0, 0);
        due.is("a full ACK channel does not count", x.sendData(), 9);
    }

    public static void main(String[] args) {
        streamsInOrder();
        budgetEndsPacket();
        streamCredit();
        connectionCredit();
        resendWithoutCredit();
        resendRunsIntoCredit();
        gapEndsFrame();
        channelFull();
        noNumbers();
        noNumbersBeforeNothing();
        allStreamsSent();
        leastWindows();
        nothingLeavesTheNumber();
        resendBehindBlockedStream();
        resendGoesOnIntoNewOffsets();
        lastOffset();
        leastAndGreatestPayload();
        fullByTheChannelAlone();
        due.finish();
    }
}
