/** The public methods of the document, so that the class and the model can be asked alike. */
interface Face {
    boolean write(int stream, int value);
    int read(int stream);
    int sendData();
    int sendAck();
    boolean deliver(int dir, int slot);
    boolean drop(int dir, int slot);
    boolean tick(int dt);
    int packetState(int pn);
    boolean received(int pn);
    int frame(int pn, int stream);
    int credit(int k);
    int streamInfo(int stream, int kind);
    int ackRange(int index, boolean high);
    int stats(int kind);
    int channelPn(int slot);
}
