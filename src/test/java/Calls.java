import java.lang.reflect.Method;
import java.lang.reflect.Modifier;

/** Calls an act by its name, on OrchardBook or on PlainBook. */
final class Calls {
    private Calls() { }

    static Method methodOf(Class<?> owner, String name) {
        for (Method m : owner.getDeclaredMethods()) {
            if (m.getName().equals(name) && Modifier.isPublic(m.getModifiers())) {
                return m;
            }
        }
        throw new IllegalStateException(name);
    }

    static long call(Object book, String act, Object... numbers) {
        try {
            return ((Number) methodOf(book.getClass(), act).invoke(book, numbers)).longValue();
        } catch (ReflectiveOperationException e) {
            throw new IllegalStateException(act, e);
        }
    }
}
