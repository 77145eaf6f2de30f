/** Promise 15: stats. */
public final class P15StatsTest {
    private static final Due due = new Due();

    private static void all(String when, Real x, int... want) {
        for (int kind = 0; kind < 9; kind++) due.is(when + ": stats(" + kind + ")", x.stats(kind), want[kind]);
        for (int kind : new int[] {Integer.MIN_VALUE, -1, 9, 10, Integer.MAX_VALUE}) {
            due.is(when + ": stats(" + kind + ")", x.stats(kind), -1);
        }
    }

    public static void main(String[] args) {
        Real x = new Real(32, 128, 1, 1000);
        all("start", x, 0, 0, -1, 0, 0, 0, 0, 0, 0);
        x.fill(0, 16, 1);
        x.tick(7);
        x.send(6);
        all("six sent", x, 7, 6, -1, 0, 0, 0, 6, 0, 0);
        x.deliver(0, 4);
        x.sendAck();
        x.sendAck();
        x.sendAck();
        all("three ACKs", x, 7, 6, -1, 0, 0, 0, 5, 3, 1);
        x.deliver(1, 0);
        all("packets 0 and 1 lost", x, 7, 6, 4, 2, 0, 0, 5, 2, 1);
        x.deliver(0, 0);
        x.sendAck();
        x.deliver(1, 2);
        int[] before = Look.at(x);
        all("packet 0 late", x, 7, 6, 4, 2, 1, 0, 4, 2, 2);
        due.same("stats changes nothing", Look.at(x), before);
        due.finish();
    }
}
