import java.lang.reflect.Method;
import java.util.Arrays;

/** A call that can be made on the program and on the model alike. */
record Call(String name, Object... arguments) {
    /** The answer; a boolean counts 1 or 0, as does nothing at all 0. */
    long on(Object target) {
        try {
            for (Method method : target.getClass().getDeclaredMethods()) {
                if (method.getName().equals(name) && method.getParameterCount() == arguments.length) {
                    Object answer = method.invoke(target, arguments);
                    return answer instanceof Number number ? number.longValue() : Boolean.TRUE.equals(answer) ? 1 : 0;
                }
            }
        } catch (ReflectiveOperationException e) {
            throw new IllegalStateException(this + " failed", e);
        }
        throw new IllegalArgumentException("no call " + name);
    }

    /** The session that makes the call; -1 for a crash, which none makes. */
    int session() {
        return arguments.length == 0 ? -1 : (Integer) arguments[0];
    }

    @Override
    public String toString() {
        String all = Arrays.toString(arguments);
        return name + "(" + all.substring(1, all.length() - 1) + ")";
    }
}
