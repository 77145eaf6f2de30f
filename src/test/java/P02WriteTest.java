/** Promise 2: write. */
public final class P02WriteTest {
    private static final Due due = new Due();

    private static void refused() {
        Real x = new Real(4, 6, 3, 100);
        x.fill(2, 3, 1);
        int[] before = Look.at(x);
        for (int s : new int[] {Integer.MIN_VALUE, -1, 4, 5, Integer.MAX_VALUE}) {
            due.is("write(" + s + ", 1)", x.write(s, 1), false);
        }
        due.same("a wrong stream changes nothing", Look.at(x), before);
    }

    private static void full() {
        for (int s = 0; s < 4; s++) {
            Real x = new Real(32, 128, 8, 100);
            for (int i = 0; i < 32; i++) {
                due.is("write " + i + " of stream " + s, x.write(s, i), true);
                due.is("written", x.streamInfo(s, QuicStreams.INFO_WRITTEN), i + 1);
                due.is("pending", x.streamInfo(s, QuicStreams.INFO_PENDING), i + 1);
                due.is("high", x.streamInfo(s, QuicStreams.INFO_HIGH), 0);
            }
            int[] before = Look.at(x);
            due.is("write 32 of stream " + s, x.write(s, 99), false);
            due.same("a full stream changes nothing", Look.at(x), before);
            due.is("another stream has room", x.write((s + 1) % 4, 1), true);
        }
    }

    private static void lowBits() {
        int[] values = {0, 255, 256, 257, -1, -256, 321, 0x7fffff80, Integer.MIN_VALUE, Integer.MAX_VALUE};
        int[] wanted = {0, 255, 0, 1, 255, 0, 65, 128, 0, 255};
        Real x = new Real(32, 128, 8, 100);
        for (int v : values) {
            due.is("write(3, " + v + ")", x.write(3, v), true);
        }
        x.pass();
        x.pass();
        for (int i = 0; i < values.length; i++) {
            due.is("the byte of " + values[i], x.read(3), wanted[i]);
        }
    }

    private static void afterSending() {
        Real x = new Real(32, 128, 8, 100);
        x.fill(0, 2, 10);
        x.send(1);
        x.write(0, 12);
        due.is("high after a later write", x.streamInfo(0, QuicStreams.INFO_HIGH), 2);
        due.is("pending after a later write", x.streamInfo(0, QuicStreams.INFO_PENDING), 1);
        due.is("outstanding after a later write", x.streamInfo(0, QuicStreams.INFO_OUTSTANDING), 2);
        due.is("the sent frame", x.frame(0, 0), 2);
        x.send(1);
        due.is("the next frame", x.frame(1, 0), 2 * 16 + 1);
    }

    /** A stream is full by what was written to it, however much of that is sent, done and read. */
    private static void staysFull() {
        for (int s = 0; s < 4; s++) {
            Real x = new Real(32, 128, 8, 100);
            x.fill(s, 32, 1);
            for (int i = 0; i < 4; i++) x.pass();
            x.passAck();
            for (int i = 0; i < 32; i++) x.read(s);
            due.is("done", x.streamInfo(s, QuicStreams.INFO_DONE), 32);
            int[] before = Look.at(x);
            due.is("write to stream " + s + " when all is read", x.write(s, 5), false);
            due.same("it changes nothing", Look.at(x), before);
        }
    }

    /** The first byte, one in the middle and the last: written and pending grow, and nothing else. */
    private static void nothingElse() {
        for (int count : new int[] {0, 15, 31}) {
            for (int s = 0; s < 4; s++) {
                Real x = new Real(4, 6, 3, 100);
                x.fill(s, count, 1);
                x.send(2);
                x.sendAck();
                int pending = x.streamInfo(s, QuicStreams.INFO_PENDING);
                int[] before = Look.at(x);
                due.is("write", x.write(s, 77), true);
                String stream = "streamInfo of stream " + s + ", kind ";
                due.onlyChanged("write " + count, Look.at(x), before, stream + 0, stream + 2);
                due.is("written", x.streamInfo(s, QuicStreams.INFO_WRITTEN), count + 1);
                due.is("pending", x.streamInfo(s, QuicStreams.INFO_PENDING), pending + 1);
            }
        }
    }

    public static void main(String[] args) {
        refused();
        full();
        lowBits();
        afterSending();
        staysFull();
        nothingElse();
        due.finish();
    }
}
