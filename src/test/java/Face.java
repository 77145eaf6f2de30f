/** The public methods of the document, so that the class and the model can be asked alike. */
interface Face {
    boolean write(int stream, int value);
    int read(int stream);
    int sendData();
    int sendAck();
    boolean deliver(int dir, int slot);
    boolean drop(int dir, int slot);
    boolean tick(int dt);
    int packetState(int pn);
    boolean received(int pn);
    int frame(int pn, int stream);
    int credit(int k);
    int streamInfo(int stream, int kind);
    int ackRange(int index, boolean high);
    int stats(int kind);
    int channelPn(int slot);

    /** Every answer that a call without effect can give, one a line. */
    default String look() {
        StringBuilder b = new StringBuilder();
        for (int kind = -1; kind <= 9; kind++) {
            b.append("stats(" + kind + ")=" + stats(kind) + "\n");
        }
        for (int k = -1; k <= 10; k++) {
            b.append("credit(" + k + ")=" + credit(k) + "\n");
        }
        for (int s = -1; s <= 4; s++) {
            for (int kind = -1; kind <= 8; kind++) {
                b.append("streamInfo(" + s + "," + kind + ")=" + streamInfo(s, kind) + "\n");
            }
        }
        for (int i = -1; i <= 4; i++) {
            b.append("ackRange(" + i + ")=" + ackRange(i, false) + ".." + ackRange(i, true) + "\n");
        }
        for (int slot = -1; slot <= 8; slot++) {
            b.append("channelPn(" + slot + ")=" + channelPn(slot) + "\n");
        }
        for (int pn = -1; pn <= 64; pn++) {
            b.append("packet " + pn + ": state " + packetState(pn) + ", received " + received(pn) + ", frames");
            for (int s = -1; s <= 4; s++) {
                b.append(" " + frame(pn, s));
            }
            b.append("\n");
        }
        return b.toString();
    }
}
