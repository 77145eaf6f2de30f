/** Promise 10: received. */
public final class P10ReceivedTest {
    public static void main(String[] args) {
        Due due = new Due();
        Real x = new Real(32, 128, 1, 1000);
        x.fill(0, 32, 1);
        x.fill(1, 32, 1);
        for (int pn = 0; pn < 64; pn++) {
            due.is("received(" + pn + ") before", x.received(pn), false);
            if (pn % 3 == 0) x.pass(); else x.lose();
            due.is("received(" + pn + ") after", x.received(pn), pn % 3 == 0);
        }
        int[] before = Look.at(x);
        for (int pn = 0; pn < 64; pn++) {
            due.is("received(" + pn + ")", x.received(pn), pn % 3 == 0);
        }
        for (int pn : new int[] {Integer.MIN_VALUE, -1, 64, 66, Integer.MAX_VALUE}) {
            due.is("received(" + pn + ")", x.received(pn), false);
        }
        due.same("received changes nothing", Look.at(x), before);
        due.finish();
    }
}
