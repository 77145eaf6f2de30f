/** Promise 4: sendData. */
public final class P04SendDataTest {
    private static final Due due = new Due();

    private static void streamsInOrder() {
        Real x = new Real(32, 128, 6, 100);
        x.fill(3, 2, 30);
        x.fill(1, 3, 10);
        x.fill(0, 2, 1);
        x.tick(9);
        due.is("sendData()", x.sendData(), 0);
        due.is("frame(0, 0)", x.frame(0, 0), 2);
        due.is("frame(0, 1)", x.frame(0, 1), 3);
        due.is("frame(0, 2)", x.frame(0, 2), -1);
        due.is("frame(0, 3)", x.frame(0, 3), 1);
        due.is("state", x.packetState(0), QuicStreams.PKT_IN_FLIGHT);
        due.is("in channel", x.channelPn(0), 0);
        due.is("pending on 3", x.streamInfo(3, QuicStreams.INFO_PENDING), 1);
        due.is("outstanding on 3", x.streamInfo(3, QuicStreams.INFO_OUTSTANDING), 1);
        due.is("high on 3", x.streamInfo(3, QuicStreams.INFO_HIGH), 1);
        due.is("sendData()", x.sendData(), 1);
        due.is("frame(1, 3)", x.frame(1, 3), 16 + 1);
        due.is("last in channel", x.channelPn(1), 1);
        due.is("next", x.stats(QuicStreams.STAT_NEXT_PN), 2);
        due.is("now", x.stats(QuicStreams.STAT_NOW), 9);
        int[] before = Look.at(x);
        due.is("sendData() with nothing pending", x.sendData(), QuicStreams.SEND_NOTHING);
        due.same("nothing to send changes nothing", Look.at(x), before);
    }

    private static void budgetEndsPacket() {
        Real x = new Real(32, 128, 3, 100);
        x.fill(0, 3, 1);
        x.fill(1, 1, 1);
        x.send(1);
        due.is("frame(0, 0)", x.frame(0, 0), 3);
        due.is("frame(0, 1)", x.frame(0, 1), -1);
        due.is("high of 1", x.streamInfo(1, QuicStreams.INFO_HIGH), 0);
    }

    private static void streamCredit() {
        Real x = new Real(2, 128, 8, 100);
        x.fill(0, 5, 1);
        x.fill(2, 1, 9);
        x.send(1);
        due.is("two bytes of stream 0", x.frame(0, 0), 2);
        due.is("stream 2 goes on", x.frame(0, 2), 1);
        x.fill(3, 1, 9);
        x.send(1);
        due.is("a stream without credit is passed over", x.frame(1, 0), -1);
        due.is("stream 3 goes on", x.frame(1, 3), 1);
        due.is("then nothing", x.sendData(), QuicStreams.SEND_NOTHING);
    }

    private static void connectionCredit() {
        Real x = new Real(32, 5, 8, 100);
        x.fill(0, 3, 1);
        x.fill(1, 4, 1);
        x.fill(2, 1, 1);
        x.send(1);
        due.is("three bytes of stream 0", x.frame(0, 0), 3);
        due.is("two bytes of stream 1", x.frame(0, 1), 2);
        due.is("none of stream 2", x.frame(0, 2), -1);
        due.is("then nothing", x.sendData(), QuicStreams.SEND_NOTHING);
    }

    /** Packet 0 (offsets 0..1) is lost while all connection credit is used: it may go again. */
    private static void resendWithoutCredit() {
        Real x = new Real(32, 4, 2, 10);
        x.fill(0, 6, 1);
        x.lose();
        x.pass();
        due.is("credit is used", x.sendData(), QuicStreams.SEND_NOTHING);
        x.passAck();
        x.tick(10);
        due.is("packet 0 is lost", x.packetState(0), QuicStreams.PKT_LOST);
        due.is("sendData()", x.sendData(), 2);
        due.is("the same bytes again", x.frame(2, 0), 2);
        due.is("high stays", x.streamInfo(0, QuicStreams.INFO_HIGH), 4);
        due.is("no credit for more", x.sendData(), QuicStreams.SEND_NOTHING);
        x.deliver(0, 0);
        for (int i = 0; i < 4; i++) due.is("read " + i, x.read(0), 1 + i);
    }

    /** A frame goes from offsets sent before into new ones only as far as the credit reaches. */
    private static void resendRunsIntoCredit() {
        Real x = new Real(32, 5, 2, 10);
        x.fill(0, 8, 1);
        x.fill(1, 1, 1);
        x.lose();
        x.lose();
        due.is("the fifth byte", x.pass(), 2);
        due.is("frame(2, 0)", x.frame(2, 0), 4 * 16 + 1);
        x.passAck();
        x.tick(10);
        due.is("pending", x.streamInfo(0, QuicStreams.INFO_PENDING), 7);
        due.is("frame 3", x.sendData(), 3);
        due.is("frame(3, 0)", x.frame(3, 0), 2);
        due.is("frame 4", x.sendData(), 4);
        due.is("a done offset ends the frame", x.frame(4, 0), 2 * 16 + 2);
        due.is("offset 5 has no credit, stream 1 neither", x.sendData(), QuicStreams.SEND_NOTHING);
    }

    /** Lost offsets 0 and 2 have offset 1 done between them, so they need two packets. */
    private static void gapEndsFrame() {
        Real x = new Real(32, 128, 1, 10);
        x.fill(0, 3, 1);
        x.lose();
        x.pass();
        x.lose();
        x.fill(1, 1, 50);
        x.pass();
        x.passAck();
        x.tick(10);
        due.is("pending", x.streamInfo(0, QuicStreams.INFO_PENDING), 2);
        x.send(2);
        due.is("frame(4, 0)", x.frame(4, 0), 1);
        due.is("frame(5, 0)", x.frame(5, 0), 2 * 16 + 1);

        Real y = new Real(32, 128, 8, 10);
        y.fill(0, 2, 1);
        y.lose();
        y.fill(0, 2, 3);
        y.pass();
        y.passAck();
        y.tick(10);
        y.fill(0, 2, 5);
        y.send(1);
        due.is("only the run before the gap", y.frame(2, 0), 2);
        y.send(1);
        due.is("then the run behind it", y.frame(3, 0), 4 * 16 + 2);
    }

    private static void channelFull() {
        Real x = new Real(32, 128, 1, 10);
        x.fill(0, 32, 1);
        for (int i = 0; i < 8; i++) due.is("sendData() " + i, x.sendData(), i);
        int[] before = Look.at(x);
        due.is("ninth sendData()", x.sendData(), QuicStreams.SEND_CHANNEL_FULL);
        due.same("a full channel changes nothing", Look.at(x), before);
        x.drop(0, 3);
        due.is("room again", x.sendData(), 8);
        due.is("put last", x.channelPn(7), 8);
        Real y = new Real(32, 8, 1, 10);
        y.fill(0, 8, 1);
        y.send(8);
        due.is("full goes before nothing", y.sendData(), QuicStreams.SEND_CHANNEL_FULL);
    }

    private static void noNumbers() {
        Real x = new Real(32, 128, 1, 10);
        for (int s = 0; s < 4; s++) x.fill(s, 32, 1);
        for (int pn = 0; pn < 56; pn++) due.is("pass", x.pass(), pn);
        for (int pn = 56; pn < 64; pn++) due.is("sendData()", x.sendData(), pn);
        due.is("in channel", x.stats(QuicStreams.STAT_DATA_IN_CHANNEL), 8);
        int[] before = Look.at(x);
        due.is("no numbers goes before a full channel", x.sendData(), QuicStreams.SEND_NO_NUMBERS);
        due.same("no numbers changes nothing", Look.at(x), before);
        x.deliver(0, 0);
        due.is("no numbers with room in the channel", x.sendData(), QuicStreams.SEND_NO_NUMBERS);
        due.is("next", x.stats(QuicStreams.STAT_NEXT_PN), 64);
    }

    private static void noNumbersBeforeNothing() {
        Real x = new Real(32, 128, 1, 10);
        x.fill(0, 32, 1);
        x.fill(1, 32, 1);
        for (int i = 0; i < 64; i++) x.pass();
        due.is("no numbers goes before nothing", x.sendData(), QuicStreams.SEND_NO_NUMBERS);
    }

    private static void allStreamsSent() {
        Real x = new Real(32, 128, 8, 10);
        for (int s = 0; s < 4; s++) x.fill(s, 32, 1);
        for (int i = 0; i < 16; i++) due.is("pass", x.pass(), i);
        int[] before = Look.at(x);
        due.is("every byte of every stream is sent", x.sendData(), QuicStreams.SEND_NOTHING);
        due.same("nothing to send changes nothing", Look.at(x), before);
    }

    public static void main(String[] args) {
        streamsInOrder();
        budgetEndsPacket();
        streamCredit();
        connectionCredit();
        resendWithoutCredit();
        resendRunsIntoCredit();
        gapEndsFrame();
        channelFull();
        noNumbers();
        noNumbersBeforeNothing();
        allStreamsSent();
        due.finish();
    }
}
