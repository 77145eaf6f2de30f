/** Promise 5: sendAck. */
public final class P05SendAckTest {
    private static final Due due = new Due();

    private static void range(Real x, int index, int lo, int hi) {
        due.is("ackRange(" + index + ", false)", x.ackRange(index, false), lo);
        due.is("ackRange(" + index + ", true)", x.ackRange(index, true), hi);
    }

    private static void noRanges() {
        Real x = new Real(4, 6, 3, 100);
        due.is("sendAck()", x.sendAck(), 0);
        due.is("put in the channel", x.stats(QuicStreams.STAT_ACK_IN_CHANNEL), 1);
        due.is("ranges", x.stats(QuicStreams.STAT_ACK_RANGES), 0);
        range(x, 0, -1, -1);
    }

    private static void runs() {
        Real x = new Real(32, 128, 1, 100);
        x.fill(0, 32, 1);
        // Handed over: 0, 2, 3, 5, 7, 8, 9, 11, so there are five runs.
        boolean[] passes = {true, false, true, true, false, true, false, true, true, true, false, true};
        for (boolean p : passes) {
            if (p) x.pass(); else x.lose();
        }
        due.is("sendAck()", x.sendAck(), 4);
        range(x, 0, 11, 11);
        range(x, 1, 7, 9);
        range(x, 2, 5, 5);
        range(x, 3, 2, 3);
        range(x, 4, -1, -1);
        due.is("ranges", x.stats(QuicStreams.STAT_ACK_RANGES), 4);
        x.pass();
        range(x, 0, 11, 11);
        due.is("sendAck() again", x.sendAck(), 4);
        range(x, 0, 11, 12);
        range(x, 3, 2, 3);
    }

    private static void exactlyFour() {
        Real x = new Real(32, 128, 1, 100);
        x.fill(0, 32, 1);
        for (int i = 0; i < 7; i++) {
            if (i % 2 == 0) x.pass(); else x.lose();
        }
        due.is("sendAck()", x.sendAck(), 4);
        range(x, 0, 6, 6);
        range(x, 1, 4, 4);
        range(x, 2, 2, 2);
        range(x, 3, 0, 0);
    }

    private static void shrinks() {
        Real x = new Real(32, 128, 1, 100);
        x.fill(0, 3, 1);
        x.send(3);
        x.deliver(0, 2);
        x.deliver(0, 0);
        due.is("two runs", x.sendAck(), 2);
        x.deliver(0, 0);
        due.is("one run", x.sendAck(), 1);
        range(x, 0, 0, 2);
        range(x, 1, -1, -1);
    }

    private static void allNumbers() {
        Real x = new Real(32, 128, 1, 100);
        for (int s = 0; s < 4; s++) x.fill(s, 32, 1);
        for (int i = 0; i < 64; i++) x.pass();
        due.is("sendAck()", x.sendAck(), 1);
        range(x, 0, 0, 63);
    }

    private static void credits() {
        Real x = new Real(4, 6, 8, 100);
        x.fill(0, 3, 1);
        x.fill(2, 3, 1);
        x.pass();
        x.read(0);
        x.read(2);
        x.read(2);
        x.sendAck();
        int[] want = {4, 4, 4, 4, 6, 5, 4, 6, 4, 9};
        for (int k = 0; k < 10; k++) due.is("credit(" + k + ")", x.credit(k), want[k]);
        x.sendAck();
        for (int k = 0; k < 10; k++) due.is("credit(" + k + ") again", x.credit(k), want[k]);
    }

    private static void creditCaps() {
        Real x = new Real(31, 126, 8, 100);
        x.fill(1, 8, 1);
        x.pass();
        int[] stream = {32, 32, 32};
        int[] conn = {127, 128, 128};
        for (int i = 0; i < 3; i++) {
            x.read(1);
            x.sendAck();
            due.is("credit(6) after " + (i + 1), x.credit(6), stream[i]);
            due.is("credit(9) after " + (i + 1), x.credit(9), conn[i]);
            due.is("credit(5) after " + (i + 1), x.credit(5), 31);
        }
    }

    private static void full() {
        Real x = new Real(4, 6, 1, 100);
        x.fill(0, 3, 1);
        x.pass();
        for (int i = 0; i < 8; i++) due.is("sendAck() " + i, x.sendAck(), 1);
        x.lose();
        x.pass();
        x.read(0);
        int[] before = Look.at(x);
        due.is("ninth sendAck()", x.sendAck(), -1);
        due.same("a full channel changes nothing", Look.at(x), before);
        x.drop(1, 0);
        due.is("room again", x.sendAck(), 2);
        due.is("credit(5) now", x.credit(5), 5);
        due.is("ack channel", x.stats(QuicStreams.STAT_ACK_IN_CHANNEL), 8);
    }

    private static void senderUntouched() {
        Real x = new Real(4, 6, 1, 100);
        x.fill(0, 2, 1);
        x.pass();
        x.read(0);
        x.sendAck();
        due.is("state", x.packetState(0), QuicStreams.PKT_IN_FLIGHT);
        due.is("largest", x.stats(QuicStreams.STAT_LARGEST), -1);
        due.is("known stream credit", x.credit(0), 4);
        due.is("known connection credit", x.credit(4), 6);
        due.is("outstanding", x.streamInfo(0, QuicStreams.INFO_OUTSTANDING), 1);
    }

    /** Every second packet arrives, 32 runs in all; once with the last number among them, once without. */
    private static void manyRuns() {
        for (int first = 0; first < 2; first++) {
            Real x = new Real(32, 128, 1, 1000);
            x.fill(0, 32, 1);
            x.fill(1, 32, 1);
            for (int pn = 0; pn < 64; pn++) {
                if (pn % 2 == first) x.pass(); else x.lose();
            }
            due.is("sendAck()", x.sendAck(), 4);
            for (int r = 0; r < 4; r++) range(x, r, 62 + first - 2 * r, 62 + first - 2 * r);
            range(x, 4, -1, -1);
        }
    }

    /** Number 0 alone and number 63 alone: runs that end where the numbers end. */
    private static void firstAndLastNumber() {
        Real x = new Real(32, 128, 1, 1000);
        x.fill(0, 32, 1);
        x.fill(1, 32, 1);
        x.pass();
        due.is("sendAck() of 0", x.sendAck(), 1);
        range(x, 0, 0, 0);
        for (int pn = 1; pn < 63; pn++) x.lose();
        x.pass();
        due.is("sendAck() of 0 and 63", x.sendAck(), 2);
        range(x, 0, 63, 63);
        range(x, 1, 0, 0);
    }

    /** Four rounds that read everything: the credits grow to 32 and 128 and stay there. */
    private static void creditsToTheEnd() {
        Real x = new Real(8, 32, 8, 1000);
        int[] stream = {16, 24, 32, 32};
        int[] conn = {64, 96, 128, 128};
        for (int round = 0; round < 4; round++) {
            for (int s = 0; s < 4; s++) x.fill(s, 8, 1);
            for (int i = 0; i < 4; i++) x.pass();
            for (int s = 0; s < 4; s++) {
                for (int i = 0; i < 8; i++) x.read(s);
            }
            x.sendAck();
            for (int s = 0; s < 4; s++) due.is("credit(" + (5 + s) + ") of round " + round, x.credit(5 + s), stream[round]);
            due.is("credit(9) of round " + round, x.credit(9), conn[round]);
            x.deliver(1, 0);
        }
        due.is("all is read", x.streamInfo(3, QuicStreams.INFO_CONSUMED), 32);

        Real y = new Real(32, 128, 8, 1000);
        for (int s = 0; s < 4; s++) y.fill(s, 32, 1);
        for (int i = 0; i < 16; i++) y.pass();
        for (int s = 0; s < 4; s++) {
            for (int i = 0; i < 32; i++) y.read(s);
        }
        int[] before = Look.at(y);
        due.is("sendAck() with all read", y.sendAck(), 1);
        due.onlyChanged("the greatest credits stay", Look.at(y), before,
            "stats 7", "stats 8", "ackRange, low, 0", "ackRange, high, 0");
    }

    /** An ACK without ranges fills the channel like any other. */
    private static void fullOfEmptyAcks() {
        Real x = new Real(4, 6, 1, 100);
        for (int i = 1; i <= 8; i++) {
            due.is("sendAck() " + i, x.sendAck(), 0);
            due.is("in channel", x.stats(QuicStreams.STAT_ACK_IN_CHANNEL), i);
        }
        x.fill(0, 1, 1);
        x.pass();
        int[] before = Look.at(x);
        due.is("ninth sendAck()", x.sendAck(), -1);
        due.same("it changes nothing", Look.at(x), before);
        due.is("deliver(1, 7)", x.deliver(1, 7), true);
        due.is("sendAck() with room", x.sendAck(), 1);
    }

    /** A full DATA channel does not refuse an ACK. */
    private static void fullDataChannel() {
        Real x = new Real(32, 128, 1, 100);
        x.fill(0, 9, 1);
        x.pass();
        x.send(8);
        int[] before = Look.at(x);
        due.is("sendAck()", x.sendAck(), 1);
        due.onlyChanged("sendAck()", Look.at(x), before, "stats 7", "stats 8", "ackRange, low, 0", "ackRange, high, 0");
    }

    public static void main(String[] args) {
        noRanges();
        runs();
        exactlyFour();
        shrinks();
        allNumbers();
        credits();
        creditCaps();
        full();
        senderUntouched();
        manyRuns();
        firstAndLastNumber();
        creditsToTheEnd();
        fullOfEmptyAcks();
        fullDataChannel();
        due.finish();
    }
}
