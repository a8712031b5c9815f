import java.lang.reflect.InvocationTargetException;
import java.util.Arrays;
import java.util.stream.Collectors;

/** A call of the face as data, so that it can be done on more than one object. */
record Call(String name, int... args) {
    /** By its name, since SmallPieces and Slow have the same face, but no type in common. */
    int on(Object pieces) {
        Class<?>[] types = new Class<?>[args.length];
        Arrays.fill(types, int.class);
        try {
            return (Integer) pieces.getClass().getDeclaredMethod(name, types)
                    .invoke(pieces, Arrays.stream(args).boxed().toArray());
        } catch (InvocationTargetException thrown) {
            throw new IllegalStateException(this + " threw", thrown.getCause());
        } catch (ReflectiveOperationException missing) {
            throw new IllegalStateException(this + " is no call of the face", missing);
        }
    }

    @Override
    public String toString() {
        return name + Arrays.stream(args).mapToObj(String::valueOf).collect(Collectors.joining(", ", "(", ")"));
    }
}
