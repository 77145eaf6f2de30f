import java.util.ArrayList;
import java.util.LinkedHashMap;
import java.util.List;
import java.util.Map;
import java.util.TreeSet;

/**
 * The document told again with objects and collections, as far from the class's own arrays as
 * it can be, so that one mistake is not likely to stand in both.
 */
final class Model implements Face {
    private enum Mark { PENDING, OUTSTANDING, DONE }

    private static final class Sent {
        int pn;
        int time;
        int state;
        /** stream -> offset -> byte */
        final Map<Integer, Map<Integer, Integer>> frames = new LinkedHashMap<>();
    }

    private static final class Ack {
        final List<int[]> ranges = new ArrayList<>();
        final int[] credit = new int[5];
    }

    private final int sw, cw, mp, ld;
    private final List<List<Integer>> bytes = new ArrayList<>();
    private final List<List<Mark>> marks = new ArrayList<>();
    private final int[] high = new int[4];
    private final int[] known = new int[5];
    private final List<Sent> sent = new ArrayList<>();
    private int largest = -1, now = 0, lost = 0, spurious = 0;
    private final List<Map<Integer, Integer>> cells = new ArrayList<>();
    private final int[] consumed = new int[4];
    private final int[] rhigh = new int[4];
    private final int[] adv = new int[5];
    private final TreeSet<Integer> got = new TreeSet<>();
    private List<int[]> built = new ArrayList<>();
    private int violations = 0;
    private final List<Sent> dataChannel = new ArrayList<>();
    private final List<Ack> ackChannel = new ArrayList<>();

    Model(int streamWindow, int connWindow, int maxPayload, int lossDelay) {
        sw = Math.min(32, Math.max(1, streamWindow));
        cw = Math.min(128, Math.max(1, connWindow));
        mp = Math.min(8, Math.max(1, maxPayload));
        ld = Math.min(1000, Math.max(1, lossDelay));
        for (int s = 0; s < 4; s++) {
            bytes.add(new ArrayList<>());
            marks.add(new ArrayList<>());
            cells.add(new LinkedHashMap<>());
            known[s] = sw;
            adv[s] = sw;
        }
        known[4] = cw;
        adv[4] = cw;
    }

    private static boolean outside(int value, int count) {
        return value < 0 || value >= count;
    }

    public boolean write(int stream, int value) {
        if (outside(stream, 4) || bytes.get(stream).size() == 32) return false;
        bytes.get(stream).add(value & 255);
        marks.get(stream).add(Mark.PENDING);
        return true;
    }

    public int read(int stream) {
        if (outside(stream, 4)) return -2;
        Integer b = cells.get(stream).get(consumed[stream]);
        if (b == null) return -1;
        consumed[stream]++;
        return b;
    }

    public int sendData() {
        if (sent.size() == 64) return -3;
        if (dataChannel.size() == 8) return -2;
        Sent p = new Sent();
        int budget = mp;
        for (int s = 0; s < 4; s++) {
            List<Mark> m = marks.get(s);
            int o = m.indexOf(Mark.PENDING);
            while (o >= 0 && o < m.size() && budget > 0 && m.get(o) == Mark.PENDING && o < known[s]
                    && (o < high[s] || high[0] + high[1] + high[2] + high[3] < known[4])) {
                m.set(o, Mark.OUTSTANDING);
                high[s] = Math.max(high[s], o + 1);
                p.frames.computeIfAbsent(s, k -> new LinkedHashMap<>()).put(o, bytes.get(s).get(o));
                o++;
                budget--;
            }
        }
        if (p.frames.isEmpty()) return -1;
        p.pn = sent.size();
        p.time = now;
        p.state = 1;
        sent.add(p);
        dataChannel.add(p);
        return p.pn;
    }

    public int sendAck() {
        if (ackChannel.size() == 8) return -1;
        int total = 0;
        for (int s = 0; s < 4; s++) {
            adv[s] = Math.max(adv[s], Math.min(32, consumed[s] + sw));
            total += consumed[s];
        }
        adv[4] = Math.max(adv[4], Math.min(128, total + cw));
        Ack a = new Ack();
        Integer hi = got.isEmpty() ? null : got.last();
        while (hi != null && a.ranges.size() < 4) {
            int lo = hi;
            while (got.contains(lo - 1)) lo--;
            a.ranges.add(new int[] {lo, hi});
            hi = got.lower(lo);
        }
        System.arraycopy(adv, 0, a.credit, 0, 5);
        built = a.ranges;
        ackChannel.add(a);
        return built.size();
    }

    public boolean deliver(int dir, int slot) {
        if (dir == 0 && !outside(slot, dataChannel.size())) {
            arrive(dataChannel.remove(slot));
            return true;
        }
        if (dir == 1 && !outside(slot, ackChannel.size())) {
            accept(ackChannel.remove(slot));
            return true;
        }
        return false;
    }

    private void arrive(Sent p) {
        got.add(p.pn);
        p.frames.forEach((s, frame) -> frame.forEach((o, b) -> {
            int u = rhigh[0] + rhigh[1] + rhigh[2] + rhigh[3];
            if (o >= adv[s] || (o >= rhigh[s] && u + (o + 1 - rhigh[s]) > adv[4])) {
                violations++;
            } else {
                rhigh[s] = Math.max(rhigh[s], o + 1);
                cells.get(s).putIfAbsent(o, b);
            }
        }));
    }

    private void accept(Ack a) {
        for (int k = 0; k < 5; k++) known[k] = Math.max(known[k], a.credit[k]);
        for (int[] range : a.ranges) {
            for (Sent p : sent.subList(range[0], range[1] + 1)) {
                if (p.state == 2) continue;
                if (p.state == 3) spurious++;
                p.state = 2;
                p.frames.forEach((s, frame) -> frame.keySet().forEach(o -> marks.get(s).set(o, Mark.DONE)));
            }
        }
        if (!a.ranges.isEmpty()) largest = Math.max(largest, a.ranges.get(0)[1]);
        detect();
    }

    private void detect() {
        for (Sent p : sent) {
            if (p.pn >= largest || p.state != 1) continue;
            int age = now - p.time;
            if (largest - p.pn < 3 && age < ld) continue;
            p.state = 3;
            lost++;
            p.frames.forEach((s, frame) -> frame.keySet().forEach(o ->
                    marks.get(s).set(o, marks.get(s).get(o) == Mark.OUTSTANDING ? Mark.PENDING : marks.get(s).get(o))));
        }
    }

    public boolean drop(int dir, int slot) {
        if (dir != 0 && dir != 1) return false;
        List<?> channel = dir == 0 ? dataChannel : ackChannel;
        if (outside(slot, channel.size())) return false;
        channel.remove(slot);
        return true;
    }

    public boolean tick(int dt) {
        if (dt < 1 || dt > 1000) return false;
        now += dt;
        detect();
        return true;
    }

    public int packetState(int pn) {
        return outside(pn, sent.size()) ? 0 : sent.get(pn).state;
    }

    public boolean received(int pn) {
        return got.contains(pn);
    }

    public int frame(int pn, int stream) {
        if (outside(pn, sent.size()) || !sent.get(pn).frames.containsKey(stream)) return -1;
        Map<Integer, Integer> frame = sent.get(pn).frames.get(stream);
        return frame.keySet().iterator().next() * 16 + frame.size();
    }

    public int credit(int k) {
        if (outside(k, 10)) return -1;
        return k <= 4 ? known[k] : adv[k - 5];
    }

    public int streamInfo(int stream, int kind) {
        if (outside(stream, 4)) return -1;
        return switch (kind) {
            case 0 -> bytes.get(stream).size();
            case 1 -> high[stream];
            case 2 -> count(stream, Mark.PENDING);
            case 3 -> count(stream, Mark.OUTSTANDING);
            case 4 -> count(stream, Mark.DONE);
            case 5 -> rhigh[stream];
            case 6 -> cells.get(stream).size();
            case 7 -> consumed[stream];
            default -> -1;
        };
    }

    private int count(int stream, Mark wanted) {
        return (int) marks.get(stream).stream().filter(m -> m == wanted).count();
    }

    public int ackRange(int index, boolean high) {
        return outside(index, built.size()) ? -1 : built.get(index)[high ? 1 : 0];
    }

    public int stats(int kind) {
        return switch (kind) {
            case 0 -> now;
            case 1 -> sent.size();
            case 2 -> largest;
            case 3 -> lost;
            case 4 -> spurious;
            case 5 -> violations;
            case 6 -> dataChannel.size();
            case 7 -> ackChannel.size();
            case 8 -> built.size();
            default -> -1;
        };
    }

    public int channelPn(int slot) {
        return outside(slot, dataChannel.size()) ? -1 : dataChannel.get(slot).pn;
    }
}
