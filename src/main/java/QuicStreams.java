/**
 * A simulated multiplexed stream transport: one sender and one receiver of four byte streams,
 * joined by a DATA channel and an ACK channel whose losses and reorderings the caller scripts.
 */
public final class QuicStreams {
    public static final int STREAMS = 4;
    public static final int STREAM_CAP = 32;
    public static final int MAX_PACKETS = 64;
    public static final int CHANNEL_CAP = 8;
    public static final int MAX_RANGES = 4;

    public static final int DIR_DATA = 0;
    public static final int DIR_ACK = 1;

    public static final int SEND_NOTHING = -1;
    public static final int SEND_CHANNEL_FULL = -2;
    public static final int SEND_NO_NUMBERS = -3;

    public static final int PKT_UNSENT = 0;
    public static final int PKT_IN_FLIGHT = 1;
    public static final int PKT_ACKED = 2;
    public static final int PKT_LOST = 3;

    public static final int INFO_WRITTEN = 0;
    public static final int INFO_HIGH = 1;
    public static final int INFO_PENDING = 2;
    public static final int INFO_OUTSTANDING = 3;
    public static final int INFO_DONE = 4;
    public static final int INFO_RHIGH = 5;
    public static final int INFO_RECEIVED = 6;
    public static final int INFO_CONSUMED = 7;

    public static final int STAT_NOW = 0;
    public static final int STAT_NEXT_PN = 1;
    public static final int STAT_LARGEST = 2;
    public static final int STAT_LOST = 3;
    public static final int STAT_SPURIOUS = 4;
    public static final int STAT_VIOLATIONS = 5;
    public static final int STAT_DATA_IN_CHANNEL = 6;
    public static final int STAT_ACK_IN_CHANNEL = 7;
    public static final int STAT_ACK_RANGES = 8;

    private static final int CONN_CAP = 128;
    private static final int PAYLOAD_CAP = 8;
    private static final int DELAY_CAP = 1000;
    private static final int TICK_CAP = 1000;
    private static final int PACKET_THRESHOLD = 3;

    // A mark of 0 stands for an offset that has not been written, so a new array needs no filling.
    private static final int MARK_PENDING = 1;
    private static final int MARK_OUTSTANDING = 2;
    private static final int MARK_DONE = 3;

    // Credits are kept in rows of five: one for each stream, and the connection's behind them.
    private static final int CREDITS = 5;
    private static final int CONN = 4;

    // Tables are one array each, row behind row, because only one-dimensional arrays are allowed.
    private static final int ALL_CELLS = 128;        // STREAMS rows of STREAM_CAP
    private static final int ALL_FRAMES = 256;       // MAX_PACKETS rows of STREAMS
    private static final int ALL_ACK_RANGES = 32;    // CHANNEL_CAP rows of MAX_RANGES
    private static final int ALL_ACK_CREDITS = 40;   // CHANNEL_CAP rows of CREDITS

    private final int streamWindow;
    private final int connWindow;
    private final int maxPayload;
    private final int lossDelay;

    // Sender.
    private final int[] written = new int[STREAMS];
    private final int[] sentHigh = new int[STREAMS];
    private final int[] sentByte = new int[ALL_CELLS];
    private final int[] mark = new int[ALL_CELLS];
    private final int[] knownCredit = new int[CREDITS];
    private final int[] sentTime = new int[MAX_PACKETS];
    private final int[] sentState = new int[MAX_PACKETS];
    private final int[] frameOffset = new int[ALL_FRAMES];
    private final int[] frameLength = new int[ALL_FRAMES];
    private int nextPn = 0;
    private int largest = -1;
    private int now = 0;
    private int lost = 0;
    private int spurious = 0;

    // Receiver.
    private final int[] cellByte = new int[ALL_CELLS];
    private final boolean[] cellFlag = new boolean[ALL_CELLS];
    private final int[] consumed = new int[STREAMS];
    private final int[] receivedHigh = new int[STREAMS];
    private final int[] advertisedCredit = new int[CREDITS];
    private final boolean[] got = new boolean[MAX_PACKETS];
    private final int[] builtLo = new int[MAX_RANGES];
    private final int[] builtHi = new int[MAX_RANGES];
    private int builtCount = 0;
    private int violations = 0;

    // Channels. A DATA packet is held as its number alone: its frames never change after sending,
    // and a byte once written to a stream never changes, so both can be looked up on delivery.
    private final int[] dataPn = new int[CHANNEL_CAP];
    private int dataCount = 0;
    private final int[] ackRangeCount = new int[CHANNEL_CAP];
    private final int[] ackLo = new int[ALL_ACK_RANGES];
    private final int[] ackHi = new int[ALL_ACK_RANGES];
    private final int[] ackCredit = new int[ALL_ACK_CREDITS];
    private int ackCount = 0;

    public QuicStreams(int streamWindow, int connWindow, int maxPayload, int lossDelay) {
        this.streamWindow = clamp(streamWindow, 1, STREAM_CAP);
        this.connWindow = clamp(connWindow, 1, CONN_CAP);
        this.maxPayload = clamp(maxPayload, 1, PAYLOAD_CAP);
        this.lossDelay = clamp(lossDelay, 1, DELAY_CAP);
        for (int s = 0; s < STREAMS; s++) {
            knownCredit[s] = this.streamWindow;
            advertisedCredit[s] = this.streamWindow;
        }
        knownCredit[CONN] = this.connWindow;
        advertisedCredit[CONN] = this.connWindow;
    }

    public boolean write(int stream, int value) {
        if (!isStream(stream) || written[stream] == STREAM_CAP) {
            return false;
        }
        int cell = stream * STREAM_CAP + written[stream];
        sentByte[cell] = value & 255;
        mark[cell] = MARK_PENDING;
        written[stream]++;
        return true;
    }

    public int read(int stream) {
        if (!isStream(stream)) {
            return -2;
        }
        if (consumed[stream] == STREAM_CAP) {
            return -1;
        }
        int cell = stream * STREAM_CAP + consumed[stream];
        if (!cellFlag[cell]) {
            return -1;
        }
        consumed[stream]++;
        return cellByte[cell];
    }

    public int sendData() {
        if (nextPn == MAX_PACKETS) {
            return SEND_NO_NUMBERS;
        }
        if (dataCount == CHANNEL_CAP) {
            return SEND_CHANNEL_FULL;
        }
        int budget = maxPayload;
        for (int s = 0; s < STREAMS; s++) {
            budget -= packFrame(s, budget);
        }
        if (budget == maxPayload) {
            return SEND_NOTHING;
        }
        int pn = nextPn;
        nextPn++;
        sentTime[pn] = now;
        sentState[pn] = PKT_IN_FLIGHT;
        dataPn[dataCount] = pn;
        dataCount++;
        return pn;
    }

    public int sendAck() {
        if (ackCount == CHANNEL_CAP) {
            return -1;
        }
        raiseAdvertisedCredit();
        buildRanges();
        putAck();
        return builtCount;
    }

    public boolean deliver(int dir, int slot) {
        if (!isFilledSlot(dir, slot)) {
            return false;
        }
        if (dir == DIR_DATA) {
            int pn = dataPn[slot];
            removeData(slot);
            receivePacket(pn);
        } else {
            // An ACK is held only in its slot, so it is taken in before later slots move over it.
            acceptAck(slot);
            removeAck(slot);
        }
        return true;
    }

    public boolean drop(int dir, int slot) {
        if (!isFilledSlot(dir, slot)) {
            return false;
        }
        if (dir == DIR_DATA) {
            removeData(slot);
        } else {
            removeAck(slot);
        }
        return true;
    }

    public boolean tick(int dt) {
        if (dt < 1 || dt > TICK_CAP) {
            return false;
        }
        now += dt;
        detectLoss();
        return true;
    }

    public int packetState(int pn) {
        return isSent(pn) ? sentState[pn] : PKT_UNSENT;
    }

    public boolean received(int pn) {
        return pn >= 0 && pn < MAX_PACKETS && got[pn];
    }

    public int frame(int pn, int stream) {
        if (!isSent(pn) || !isStream(stream)) {
            return -1;
        }
        int f = pn * STREAMS + stream;
        if (frameLength[f] == 0) {
            return -1;
        }
        return frameOffset[f] * 16 + frameLength[f];
    }

    public int credit(int k) {
        if (k < 0 || k >= 2 * CREDITS) {
            return -1;
        }
        return k < CREDITS ? knownCredit[k] : advertisedCredit[k - CREDITS];
    }

    public int streamInfo(int stream, int kind) {
        if (!isStream(stream)) {
            return -1;
        }
        switch (kind) {
            case INFO_WRITTEN:
                return written[stream];
            case INFO_HIGH:
                return sentHigh[stream];
            case INFO_PENDING:
                return countMarks(stream, MARK_PENDING);
            case INFO_OUTSTANDING:
                return countMarks(stream, MARK_OUTSTANDING);
            case INFO_DONE:
                return countMarks(stream, MARK_DONE);
            case INFO_RHIGH:
                return receivedHigh[stream];
            case INFO_RECEIVED:
                return countFlags(stream);
            case INFO_CONSUMED:
                return consumed[stream];
            default:
                return -1;
        }
    }

    public int ackRange(int index, boolean high) {
        if (index < 0 || index >= builtCount) {
            return -1;
        }
        return high ? builtHi[index] : builtLo[index];
    }

    public int stats(int kind) {
        switch (kind) {
            case STAT_NOW:
                return now;
            case STAT_NEXT_PN:
                return nextPn;
            case STAT_LARGEST:
                return largest;
            case STAT_LOST:
                return lost;
            case STAT_SPURIOUS:
                return spurious;
            case STAT_VIOLATIONS:
                return violations;
            case STAT_DATA_IN_CHANNEL:
                return dataCount;
            case STAT_ACK_IN_CHANNEL:
                return ackCount;
            case STAT_ACK_RANGES:
                return builtCount;
            default:
                return -1;
        }
    }

    public int channelPn(int slot) {
        return isFilledSlot(DIR_DATA, slot) ? dataPn[slot] : -1;
    }

    private static int clamp(int value, int least, int greatest) {
        if (value < least) {
            return least;
        }
        return value > greatest ? greatest : value;
    }

    private static int lesser(int a, int b) {
        return a < b ? a : b;
    }

    private static int greater(int a, int b) {
        return a > b ? a : b;
    }

    private static boolean isStream(int stream) {
        return stream >= 0 && stream < STREAMS;
    }

    private boolean isSent(int pn) {
        return pn >= 0 && pn < nextPn;
    }

    private boolean isFilledSlot(int dir, int slot) {
        if (dir == DIR_DATA) {
            return slot >= 0 && slot < dataCount;
        }
        return dir == DIR_ACK && slot >= 0 && slot < ackCount;
    }

    private static int sumOverStreams(int[] perStream) {
        int sum = 0;
        for (int s = 0; s < STREAMS; s++) {
            sum += perStream[s];
        }
        return sum;
    }

    private int countMarks(int stream, int wanted) {
        int count = 0;
        for (int o = 0; o < written[stream]; o++) {
            if (mark[stream * STREAM_CAP + o] == wanted) {
                count++;
            }
        }
        return count;
    }

    private int countFlags(int stream) {
        int count = 0;
        for (int o = 0; o < STREAM_CAP; o++) {
            if (cellFlag[stream * STREAM_CAP + o]) {
                count++;
            }
        }
        return count;
    }

    /** Puts what it can of the stream into the packet being built, and answers how many bytes. */
    private int packFrame(int stream, int budget) {
        int start = firstPending(stream);
        int end = written[stream];
        int length = 0;
        for (int o = start; o < end && length < budget && maySend(stream, o); o++) {
            mark[stream * STREAM_CAP + o] = MARK_OUTSTANDING;
            sentHigh[stream] = greater(sentHigh[stream], o + 1);
            length++;
        }
        // Without bytes nothing may be recorded: the packet number may stay unused.
        if (length > 0) {
            frameOffset[nextPn * STREAMS + stream] = start;
            frameLength[nextPn * STREAMS + stream] = length;
        }
        return length;
    }

    /** The least pending offset of the stream, or written[stream] if there is none. */
    private int firstPending(int stream) {
        for (int o = 0; o < written[stream]; o++) {
            if (mark[stream * STREAM_CAP + o] == MARK_PENDING) {
                return o;
            }
        }
        return written[stream];
    }

    private boolean maySend(int stream, int offset) {
        if (mark[stream * STREAM_CAP + offset] != MARK_PENDING || offset >= knownCredit[stream]) {
            return false;
        }
        // Sending an offset again uses no new connection credit.
        return offset < sentHigh[stream] || sumOverStreams(sentHigh) < knownCredit[CONN];
    }

    private void raiseAdvertisedCredit() {
        for (int s = 0; s < STREAMS; s++) {
            int streamCredit = lesser(STREAM_CAP, consumed[s] + streamWindow);
            advertisedCredit[s] = greater(advertisedCredit[s], streamCredit);
        }
        int wanted = sumOverStreams(consumed) + connWindow;
        int connCredit = lesser(CONN_CAP, wanted);
        advertisedCredit[CONN] = greater(advertisedCredit[CONN], connCredit);
    }

    private void buildRanges() {
        int count = 0;
        boolean inRun = false;
        for (int pn = MAX_PACKETS - 1; pn >= 0; pn--) {
            if (got[pn] && !inRun) {
                if (count == MAX_RANGES) {
                    break;
                }
                builtHi[count] = pn;
                count++;
            }
            if (got[pn]) {
                builtLo[count - 1] = pn;
            }
            inRun = got[pn];
        }
        builtCount = count;
    }

    private void putAck() {
        ackRangeCount[ackCount] = builtCount;
        for (int r = 0; r < builtCount; r++) {
            ackLo[ackCount * MAX_RANGES + r] = builtLo[r];
            ackHi[ackCount * MAX_RANGES + r] = builtHi[r];
        }
        for (int k = 0; k < CREDITS; k++) {
            ackCredit[ackCount * CREDITS + k] = advertisedCredit[k];
        }
        ackCount++;
    }

    private void removeData(int slot) {
        dataCount--;
        for (int i = slot; i < dataCount; i++) {
            dataPn[i] = dataPn[i + 1];
        }
    }

    private void removeAck(int slot) {
        ackCount--;
        for (int i = slot; i < ackCount; i++) {
            ackRangeCount[i] = ackRangeCount[i + 1];
        }
        for (int i = slot * MAX_RANGES; i < ackCount * MAX_RANGES; i++) {
            ackLo[i] = ackLo[i + MAX_RANGES];
            ackHi[i] = ackHi[i + MAX_RANGES];
        }
        for (int i = slot * CREDITS; i < ackCount * CREDITS; i++) {
            ackCredit[i] = ackCredit[i + CREDITS];
        }
    }

    private void receivePacket(int pn) {
        got[pn] = true;
        for (int s = 0; s < STREAMS; s++) {
            int start = frameOffset[pn * STREAMS + s];
            int end = start + frameLength[pn * STREAMS + s];
            for (int o = start; o < end; o++) {
                receiveByte(s, o);
            }
        }
    }

    private void receiveByte(int stream, int offset) {
        if (violatesCredit(stream, offset)) {
            violations++;
            return;
        }
        receivedHigh[stream] = greater(receivedHigh[stream], offset + 1);
        int cell = stream * STREAM_CAP + offset;
        if (!cellFlag[cell]) {
            cellByte[cell] = sentByte[cell];
            cellFlag[cell] = true;
        }
    }

    private boolean violatesCredit(int stream, int offset) {
        if (offset >= advertisedCredit[stream]) {
            return true;
        }
        int growth = offset + 1 - receivedHigh[stream];
        return growth > 0 && sumOverStreams(receivedHigh) + growth > advertisedCredit[CONN];
    }

    private void acceptAck(int slot) {
        for (int k = 0; k < CREDITS; k++) {
            knownCredit[k] = greater(knownCredit[k], ackCredit[slot * CREDITS + k]);
        }
        int ranges = ackRangeCount[slot];
        for (int r = 0; r < ranges; r++) {
            int hi = ackHi[slot * MAX_RANGES + r];
            for (int pn = ackLo[slot * MAX_RANGES + r]; pn <= hi; pn++) {
                acknowledge(pn);
            }
        }
        if (ranges > 0) {
            largest = greater(largest, ackHi[slot * MAX_RANGES]);
        }
        detectLoss();
    }

    private void acknowledge(int pn) {
        if (sentState[pn] != PKT_IN_FLIGHT && sentState[pn] != PKT_LOST) {
            return;
        }
        if (sentState[pn] == PKT_LOST) {
            spurious++;
        }
        sentState[pn] = PKT_ACKED;
        for (int s = 0; s < STREAMS; s++) {
            int start = frameOffset[pn * STREAMS + s];
            int end = start + frameLength[pn * STREAMS + s];
            for (int o = start; o < end; o++) {
                mark[s * STREAM_CAP + o] = MARK_DONE;
            }
        }
    }

    private void detectLoss() {
        for (int pn = 0; pn < largest; pn++) {
            boolean late = largest - pn >= PACKET_THRESHOLD || now - sentTime[pn] >= lossDelay;
            if (sentState[pn] == PKT_IN_FLIGHT && late) {
                declareLost(pn);
            }
        }
    }

    private void declareLost(int pn) {
        sentState[pn] = PKT_LOST;
        lost++;
        for (int s = 0; s < STREAMS; s++) {
            int start = frameOffset[pn * STREAMS + s];
            int end = start + frameLength[pn * STREAMS + s];
            for (int o = start; o < end; o++) {
                if (mark[s * STREAM_CAP + o] == MARK_OUTSTANDING) {
                    mark[s * STREAM_CAP + o] = MARK_PENDING;
                }
            }
        }
    }
}
