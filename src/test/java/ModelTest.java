/**
 * Long runs of scripted calls on the class and on the model side by side. After every call the
 * answer and everything that can be seen must be equal, so a change that no promise allows is
 * found as well as one that is missing.
 */
public final class ModelTest {
    private static final String[] EVENTS = {"no numbers", "channel full", "nothing to send", "ack channel full",
        "four ranges", "loss", "spurious", "lost by age", "wrong argument", "stream full", "resent beside new"};
    private static final int[] ODD = {Integer.MIN_VALUE, -5, -1, 4, 8, 9, 64, 1001, Integer.MAX_VALUE};

    private final Due due = new Due();
    private final int[] seen = new int[EVENTS.length];
    private long seed;

    /** A fixed sequence of numbers, the same in every run. */
    private int pick(int bound) {
        seed = seed * 6364136223846793005L + 1442695040888963407L;
        return (int) ((seed >>> 33) % bound);
    }

    private int oneOf(int count) {
        if (pick(40) == 0) {
            seen[8]++;
            return ODD[pick(ODD.length)];
        }
        return count < 1 ? 0 : pick(count);
    }

    private void run(int number) {
        seed = number * 7919L + 17;
        int sw = pick(4) == 0 ? 100 : pick(12) - 1;
        int cw = pick(4) == 0 ? 500 : pick(40) - 1;
        int mp = pick(3) == 0 ? 1 : pick(11) - 1;
        int ld = pick(3) == 0 ? 5000 : pick(60) - 1;
        Face real = new Real(sw, cw, mp, ld);
        Face model = new Model(sw, cw, mp, ld);
        int[] weight = new int[9];
        int all = 0;
        for (int i = 0; i < weight.length; i++) {
            weight[i] = 1 + pick(i == 7 || i == 8 ? 4 : 10);
            all += weight[i];
        }
        int steps = 300 + pick(500);
        due.same("run " + number + " at the start", Look.at(real), Look.at(model));
        for (int i = 0; i < steps && !due.anyWrong(); i++) {
            int at = pick(all);
            int kind = 0;
            while (at >= weight[kind]) {
                at -= weight[kind];
                kind++;
            }
            step("run " + number + ", call " + i + ", ", kind, real, model);
        }
    }

    private void step(String where, int kind, Face real, Face model) {
        int lostBefore = real.stats(QuicStreams.STAT_LOST);
        int spuriousBefore = real.stats(QuicStreams.STAT_SPURIOUS);
        String call;
        switch (kind) {
            case 0: {
                int s = oneOf(4);
                int v = pick(2000) - 1000;
                call = where + "write(" + s + ", " + v + ")";
                boolean want = model.write(s, v);
                due.is(call, real.write(s, v), want);
                if (!want && s >= 0 && s < 4) seen[9]++;
                break;
            }
            case 1: {
                int s = oneOf(4);
                call = where + "read(" + s + ")";
                due.is(call, real.read(s), model.read(s));
                break;
            }
            case 2: {
                call = where + "sendData()";
                int want = model.sendData();
                due.is(call, real.sendData(), want);
                if (want == -3) seen[0]++;
                if (want == -2) seen[1]++;
                if (want == -1) seen[2]++;
                if (want >= 0) countResent(model, want);
                break;
            }
            case 3: {
                call = where + "sendAck()";
                int want = model.sendAck();
                due.is(call, real.sendAck(), want);
                if (want == -1) seen[3]++;
                if (want == 4) seen[4]++;
                break;
            }
            case 4:
            case 5:
            case 6:
            case 7: {
                int dir = pick(40) == 0 ? ODD[pick(ODD.length)] : (kind == 5 || (kind == 7 && pick(3) == 0) ? 1 : 0);
                int slot = oneOf(model.stats(dir == 1 ? 7 : 6));
                boolean drop = kind == 7;
                call = where + (drop ? "drop(" : "deliver(") + dir + ", " + slot + ")";
                boolean want = drop ? model.drop(dir, slot) : model.deliver(dir, slot);
                due.is(call, drop ? real.drop(dir, slot) : real.deliver(dir, slot), want);
                break;
            }
            default: {
                int dt = pick(10) == 0 ? pick(1003) : pick(12);
                call = where + "tick(" + dt + ")";
                due.is(call, real.tick(dt), model.tick(dt));
                if (real.stats(QuicStreams.STAT_LOST) > lostBefore) seen[7]++;
                break;
            }
        }
        if (real.stats(QuicStreams.STAT_LOST) > lostBefore) seen[5]++;
        if (real.stats(QuicStreams.STAT_SPURIOUS) > spuriousBefore) seen[6]++;
        due.same("after " + call, Look.at(real), Look.at(model));
    }

    private void countResent(Face model, int pn) {
        for (int s = 0; s < 4; s++) {
            int f = model.frame(pn, s);
            if (f > 0 && f / 16 + f % 16 < model.streamInfo(s, QuicStreams.INFO_HIGH)) {
                seen[10]++;
                return;
            }
        }
    }

    public static void main(String[] args) {
        ModelTest t = new ModelTest();
        for (int number = 0; number < 400 && !t.due.anyWrong(); number++) {
            t.run(number);
        }
        for (int e = 0; e < EVENTS.length; e++) {
            System.out.println(EVENTS[e] + ": " + t.seen[e]);
            t.due.is("the runs met '" + EVENTS[e] + "' at least ten times", t.due.anyWrong() || t.seen[e] >= 10, true);
        }
        t.due.finish();
    }
}
