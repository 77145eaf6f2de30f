import java.lang.reflect.Array;
import java.lang.reflect.Field;
import java.lang.reflect.Modifier;
import java.util.function.Supplier;
import java.util.function.ToIntFunction;

/**
 * A place inside the object that an answer comes from. The document tells of states that no run of
 * calls leads to; its rules for them can be tried only by setting such a place. It is found by
 * trial and not by name, because the representation is free.
 */
final class Inside {
    private final Field field;
    private final int index;

    private Inside(Field field, int index) {
        this.field = field;
        this.index = index;
    }

    /** The place that makes the answer this value, which it must not have by itself. */
    static Inside of(Supplier<Real> made, ToIntFunction<Real> answer, int value) throws ReflectiveOperationException {
        if (answer.applyAsInt(made.get()) == value) {
            throw new IllegalArgumentException("the answer is " + value + " without any setting");
        }
        for (Field f : QuicStreams.class.getDeclaredFields()) {
            if (Modifier.isStatic(f.getModifiers())) continue;
            f.setAccessible(true);
            int places = f.getType().isArray() ? Array.getLength(f.get(made.get().x)) : 1;
            for (int i = 0; i < places; i++) {
                Inside place = new Inside(f, i);
                Real x = made.get();
                if (place.set(x, value) && answers(x, answer, value)) return place;
            }
        }
        throw new IllegalStateException("no place gives the answer " + value);
    }

    private static boolean answers(Real x, ToIntFunction<Real> answer, int value) {
        try {
            return answer.applyAsInt(x) == value;
        } catch (ArrayIndexOutOfBoundsException wrongPlace) {
            return false;
        }
    }

    /** False if this place holds no number. */
    boolean set(Real x, int value) throws ReflectiveOperationException {
        Class<?> type = field.getType();
        if (type == int.class || type == long.class) {
            field.setInt(x.x, value);
        } else if (type == int[].class || type == long[].class) {
            Array.setInt(field.get(x.x), index, value);
        } else if (type == byte[].class) {
            Array.setByte(field.get(x.x), index, (byte) value);
        } else {
            return false;
        }
        return true;
    }
}
