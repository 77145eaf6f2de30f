/** Promise 14: ackRange. */
public final class P14AckRangeTest {
    private static final Due due = new Due();

    private static void none(Real x, int from) {
        for (int i : new int[] {Integer.MIN_VALUE, -1, from, from + 1, 4, 5, Integer.MAX_VALUE}) {
            due.is("ackRange(" + i + ", true)", x.ackRange(i, true), -1);
            due.is("ackRange(" + i + ", false)", x.ackRange(i, false), -1);
        }
    }

    public static void main(String[] args) {
        Real x = new Real(32, 128, 1, 1000);
        x.fill(0, 16, 1);
        none(x, 0);
        x.pass();
        x.pass();
        x.lose();
        x.pass();
        none(x, 0);
        x.sendAck();
        int[] before = Look.at(x);
        due.is("ackRange(0, true)", x.ackRange(0, true), 3);
        due.is("ackRange(0, false)", x.ackRange(0, false), 3);
        due.is("ackRange(1, true)", x.ackRange(1, true), 1);
        due.is("ackRange(1, false)", x.ackRange(1, false), 0);
        none(x, 2);
        due.same("ackRange changes nothing", Look.at(x), before);

        // What is received, delivered or dropped later does not change the last built ACK.
        x.pass();
        x.deliver(1, 0);
        due.is("ackRange(0, true) later", x.ackRange(0, true), 3);
        due.is("ackRange(1, false) later", x.ackRange(1, false), 0);
        x.sendAck();
        x.drop(1, 0);
        due.is("ackRange(0, true) of the next", x.ackRange(0, true), 4);
        due.is("ackRange(0, false) of the next", x.ackRange(0, false), 3);
        due.finish();
    }
}
