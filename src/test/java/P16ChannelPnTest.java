/** Promise 16: channelPn. */
public final class P16ChannelPnTest {
    private static final Due due = new Due();

    private static void slots(String when, Real x, int... want) {
        for (int slot = 0; slot < 10; slot++) {
            due.is(when + ": channelPn(" + slot + ")", x.channelPn(slot), slot < want.length ? want[slot] : -1);
        }
        for (int slot : new int[] {Integer.MIN_VALUE, -1, Integer.MAX_VALUE}) {
            due.is(when + ": channelPn(" + slot + ")", x.channelPn(slot), -1);
        }
    }

    public static void main(String[] args) {
        Real x = new Real(32, 128, 1, 1000);
        slots("empty", x);
        x.fill(0, 16, 1);
        x.sendAck();
        x.sendAck();
        slots("ACKs do not count", x);
        x.send(8);
        int[] before = Look.at(x);
        slots("full", x, 0, 1, 2, 3, 4, 5, 6, 7);
        due.same("channelPn changes nothing", Look.at(x), before);
        x.drop(0, 7);
        slots("newest out", x, 0, 1, 2, 3, 4, 5, 6);
        x.deliver(0, 0);
        slots("oldest out", x, 1, 2, 3, 4, 5, 6);
        x.deliver(0, 2);
        slots("middle out", x, 1, 2, 4, 5, 6);
        x.send(1);
        slots("one more", x, 1, 2, 4, 5, 6, 8);
        for (int i = 0; i < 6; i++) x.drop(0, 0);
        slots("empty again", x);
        due.finish();
    }
}
