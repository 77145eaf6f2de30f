import java.lang.reflect.Constructor;
import java.lang.reflect.Field;
import java.lang.reflect.Method;
import java.lang.reflect.Modifier;
import java.util.Set;
import java.util.TreeSet;

/** The public face: the constants with their values, the constructor, the methods, and no other member to be seen. */
public final class FaceTest {
    private static final String CONSTANTS = "STREAMS=4 STREAM_CAP=32 MAX_PACKETS=64 CHANNEL_CAP=8 MAX_RANGES=4"
        + " DIR_DATA=0 DIR_ACK=1 SEND_NOTHING=-1 SEND_CHANNEL_FULL=-2 SEND_NO_NUMBERS=-3"
        + " PKT_UNSENT=0 PKT_IN_FLIGHT=1 PKT_ACKED=2 PKT_LOST=3"
        + " INFO_WRITTEN=0 INFO_HIGH=1 INFO_PENDING=2 INFO_OUTSTANDING=3 INFO_DONE=4 INFO_RHIGH=5 INFO_RECEIVED=6"
        + " INFO_CONSUMED=7"
        + " STAT_NOW=0 STAT_NEXT_PN=1 STAT_LARGEST=2 STAT_LOST=3 STAT_SPURIOUS=4 STAT_VIOLATIONS=5"
        + " STAT_DATA_IN_CHANNEL=6 STAT_ACK_IN_CHANNEL=7 STAT_ACK_RANGES=8";
    private static final String METHODS = "boolean write(int,int);int read(int);int sendData();int sendAck();"
        + "boolean deliver(int,int);boolean drop(int,int);boolean tick(int);int packetState(int);boolean received(int);"
        + "int frame(int,int);int credit(int);int streamInfo(int,int);int ackRange(int,boolean);int stats(int);"
        + "int channelPn(int)";

    private static String signature(Method m) {
        StringBuilder b = new StringBuilder(m.getReturnType() + " " + m.getName() + "(");
        Class<?>[] types = m.getParameterTypes();
        for (int i = 0; i < types.length; i++) {
            b.append(i == 0 ? "" : ",").append(types[i]);
        }
        return b.append(")").toString();
    }

    public static void main(String[] args) throws IllegalAccessException {
        Due due = new Due();
        Class<?> c = QuicStreams.class;
        due.is("the class is public and final", Modifier.isPublic(c.getModifiers()) && Modifier.isFinal(c.getModifiers()), true);
        Set<String> constants = new TreeSet<>();
        for (Field f : c.getDeclaredFields()) {
            if (Modifier.isPrivate(f.getModifiers())) continue;
            boolean plain = f.getModifiers() == (Modifier.PUBLIC | Modifier.STATIC | Modifier.FINAL) && f.getType() == int.class;
            due.is(f + " is a public int constant", plain, true);
            constants.add(f.getName() + "=" + f.getInt(null));
        }
        due.is("constants " + constants, constants.equals(new TreeSet<>(Set.of(CONSTANTS.split(" ")))), true);
        Set<String> methods = new TreeSet<>();
        for (Method m : c.getDeclaredMethods()) {
            if (Modifier.isPrivate(m.getModifiers())) continue;
            due.is(m + " is public and not static", m.getModifiers() == Modifier.PUBLIC, true);
            methods.add(signature(m));
        }
        due.is("methods " + methods, methods.equals(new TreeSet<>(Set.of(METHODS.split(";")))), true);
        Constructor<?>[] made = c.getDeclaredConstructors();
        due.is("constructors", made.length, 1);
        due.is("it is public", made[0].getModifiers() == Modifier.PUBLIC, true);
        due.is("it takes four ints", made[0].toString().endsWith("(int,int,int,int)"), true);
        due.is("nested classes", c.getDeclaredClasses().length, 0);
        due.finish();
    }
}
