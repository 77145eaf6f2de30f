/** Promise 12: credit. */
public final class P12CreditTest {
    public static void main(String[] args) {
        Due due = new Due();
        Real x = new Real(10, 40, 8, 100);
        for (int s = 0; s < 4; s++) x.fill(s, 4, 1);
        x.pass();
        x.pass();
        for (int s = 0; s < 4; s++) {
            for (int i = 0; i <= s; i++) x.read(s);
        }
        x.sendAck();
        int[] before = Look.at(x);
        int[] want = {10, 10, 10, 10, 40, 11, 12, 13, 14, 50};
        for (int k = 0; k < 10; k++) due.is("credit(" + k + ")", x.credit(k), want[k]);
        for (int k : new int[] {Integer.MIN_VALUE, -1, 10, 11, Integer.MAX_VALUE}) {
            due.is("credit(" + k + ")", x.credit(k), -1);
        }
        due.same("credit changes nothing", Look.at(x), before);
        x.deliver(1, 0);
        int[] later = {11, 12, 13, 14, 50, 11, 12, 13, 14, 50};
        for (int k = 0; k < 10; k++) due.is("credit(" + k + ") later", x.credit(k), later[k]);
        due.finish();
    }
}
