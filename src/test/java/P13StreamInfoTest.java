/** Promise 13: streamInfo. */
public final class P13StreamInfoTest {
    public static void main(String[] args) {
        Due due = new Due();
        Real x = new Real(32, 128, 2, 1000);
        x.fill(1, 13, 1);
        // Offsets 0..1 are lost, 2..5 on their way, 6..7 acknowledged, 8..12 not yet sent.
        x.lose();
        x.send(2);
        x.pass();
        x.passAck();
        x.send(1);
        // The lost ones went out again in packet 4.
        due.is("frame(4, 1)", x.frame(4, 1), 2);
        x.deliver(0, 2);
        x.read(1);
        int[] before = Look.at(x);
        int[] want = {13, 8, 5, 6, 2, 8, 4, 1};
        for (int kind = 0; kind < 8; kind++) {
            due.is("streamInfo(1, " + kind + ")", x.streamInfo(1, kind), want[kind]);
            for (int s : new int[] {0, 2, 3}) due.is("streamInfo(" + s + ", " + kind + ")", x.streamInfo(s, kind), 0);
            for (int s : new int[] {Integer.MIN_VALUE, -1, 4, 5, Integer.MAX_VALUE}) {
                due.is("streamInfo(" + s + ", " + kind + ")", x.streamInfo(s, kind), -1);
            }
        }
        for (int kind : new int[] {Integer.MIN_VALUE, -1, 8, 9, Integer.MAX_VALUE}) {
            due.is("streamInfo(1, " + kind + ")", x.streamInfo(1, kind), -1);
            due.is("streamInfo(4, " + kind + ")", x.streamInfo(4, kind), -1);
        }
        due.same("streamInfo changes nothing", Look.at(x), before);

        Real y = new Real(32, 128, 8, 1000);
        for (int s = 0; s < 4; s++) {
            y.fill(s, 32, 1);
            for (int i = 0; i < 4; i++) y.pass();
        }
        y.passAck();
        for (int s = 0; s < 4; s++) {
            for (int i = 0; i < 32; i++) y.read(s);
            int[] full = {32, 32, 0, 0, 32, 32, 32, 32};
            for (int kind = 0; kind < 8; kind++) {
                due.is("full: streamInfo(" + s + ", " + kind + ")", y.streamInfo(s, kind), full[kind]);
            }
        }
        due.finish();
    }
}
