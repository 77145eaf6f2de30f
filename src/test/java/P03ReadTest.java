/** Promise 3: read. */
public final class P03ReadTest {
    private static final Due due = new Due();

    private static void wrong() {
        Real x = new Real(4, 6, 3, 100);
        x.fill(0, 2, 7);
        x.pass();
        int[] before = Look.at(x);
        for (int s : new int[] {Integer.MIN_VALUE, -1, 4, Integer.MAX_VALUE}) {
            due.is("read(" + s + ")", x.read(s), -2);
        }
        due.is("read(1), nothing there", x.read(1), -1);
        due.same("a refused read changes nothing", Look.at(x), before);
    }

    private static void gap() {
        Real x = new Real(32, 128, 2, 100);
        x.fill(1, 4, 20);
        x.send(2);
        x.deliver(0, 1);
        due.is("read before the gap is closed", x.read(1), -1);
        due.is("consumed", x.streamInfo(1, QuicStreams.INFO_CONSUMED), 0);
        x.deliver(0, 0);
        for (int i = 0; i < 4; i++) {
            due.is("read " + i, x.read(1), 20 + i);
            due.is("consumed", x.streamInfo(1, QuicStreams.INFO_CONSUMED), i + 1);
        }
        due.is("read behind the last", x.read(1), -1);
        due.is("cells keep their flags", x.streamInfo(1, QuicStreams.INFO_RECEIVED), 4);
    }

    private static void wholeStream() {
        for (int s = 0; s < 4; s++) {
            Real x = new Real(32, 128, 8, 100);
            x.fill(s, 32, 100 + s);
            // The next stream's first byte lies behind this one's last and must not be read for it.
            x.fill((s + 1) % 4, 4, 1);
            for (int i = 0; i < 5; i++) x.pass();
            for (int i = 0; i < 32; i++) {
                due.is("read " + i + " of stream " + s, x.read(s), 100 + s + i);
            }
            int[] before = Look.at(x);
            due.is("read 32 of stream " + s, x.read(s), -1);
            due.same("a stream read to its end changes no more", Look.at(x), before);
        }
    }

    private static void credits() {
        Real x = new Real(4, 6, 3, 100);
        x.fill(0, 3, 1);
        x.pass();
        x.read(0);
        x.read(0);
        for (int k = 0; k < 10; k++) {
            due.is("credit(" + k + ") after reading", x.credit(k), k == 4 || k == 9 ? 6 : 4);
        }
    }

    private static void emptyStreams() {
        Real x = new Real(4, 6, 3, 100);
        int[] before = Look.at(x);
        for (int s = 0; s < 4; s++) due.is("new: read(" + s + ")", x.read(s), -1);
        due.is("new: read(-1)", x.read(-1), -2);
        due.is("new: read(4)", x.read(4), -2);
        due.same("reading a new object changes nothing", Look.at(x), before);
    }

    /** A byte that is written, and one that is on its way, cannot be read yet. */
    private static void notYetThere() {
        Real x = new Real(4, 6, 3, 100);
        x.write(2, 9);
        due.is("read of a pending byte", x.read(2), -1);
        x.send(1);
        int[] before = Look.at(x);
        due.is("read of a byte on its way", x.read(2), -1);
        due.same("it changes nothing", Look.at(x), before);
        x.deliver(0, 0);
        before = Look.at(x);
        due.is("read of the byte", x.read(2), 9);
        due.onlyChanged("reading", Look.at(x), before, "streamInfo of stream 2, kind 7");
        due.is("read again", x.read(2), -1);
    }

    /** The least and the greatest byte are answers like any other. */
    private static void leastAndGreatestByte() {
        Real x = new Real(32, 128, 8, 100);
        x.write(0, 255);
        x.write(0, 0);
        x.pass();
        due.is("read of 255", x.read(0), 255);
        due.is("read of 0", x.read(0), 0);
        due.is("consumed", x.streamInfo(0, QuicStreams.INFO_CONSUMED), 2);
    }

    /** The gap is met only after some bytes were read. */
    private static void gapBehindRead() {
        Real x = new Real(32, 128, 1, 100);
        x.fill(3, 3, 50);
        x.send(3);
        x.deliver(0, 0);
        x.deliver(0, 1);
        due.is("read before the gap", x.read(3), 50);
        int[] before = Look.at(x);
        due.is("read at the gap", x.read(3), -1);
        due.same("a gap changes nothing", Look.at(x), before);
        x.deliver(0, 0);
        due.is("read of the late byte", x.read(3), 51);
        due.is("read behind it", x.read(3), 52);
    }

    public static void main(String[] args) {
        wrong();
        gap();
        wholeStream();
        credits();
        emptyStreams();
        notYetThere();
        leastAndGreatestByte();
        gapBehindRead();
        due.finish();
    }
}
