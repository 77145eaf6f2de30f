import java.util.ArrayList;
import java.util.List;
import java.util.function.ToIntFunction;

/** Every answer that a call without effect can give, edges and wrong arguments with them. */
final class Look {
    static final List<String> NAMES = new ArrayList<>();
    private static final List<ToIntFunction<Face>> CALLS = new ArrayList<>();

    private Look() { }

    static {
        range(-1, 9, "stats", Face::stats);
        range(-1, 10, "credit", Face::credit);
        range(-1, 8, "channelPn", Face::channelPn);
        range(-1, 64, "packetState", Face::packetState);
        range(-1, 64, "received", (x, pn) -> x.received(pn) ? 1 : 0);
        range(-1, 4, "ackRange, low,", (x, i) -> x.ackRange(i, false));
        range(-1, 4, "ackRange, high,", (x, i) -> x.ackRange(i, true));
        for (int s = -1; s <= 4; s++) {
            int stream = s;
            range(-1, 8, "streamInfo of stream " + s + ", kind", (x, kind) -> x.streamInfo(stream, kind));
            range(-1, 64, "frame on stream " + s + ", packet", (x, pn) -> x.frame(pn, stream));
        }
    }

    private interface Call {
        int ask(Face x, int argument);
    }

    private static void range(int from, int to, String name, Call call) {
        for (int i = from; i <= to; i++) {
            int argument = i;
            NAMES.add(name + " " + i);
            CALLS.add(x -> call.ask(x, argument));
        }
    }

    static int[] at(Face x) {
        int[] answers = new int[CALLS.size()];
        for (int i = 0; i < answers.length; i++) {
            answers[i] = CALLS.get(i).applyAsInt(x);
        }
        return answers;
    }
}
