import java.lang.reflect.InvocationTargetException;
import java.lang.reflect.Method;
import java.util.ArrayList;
import java.util.HashMap;
import java.util.List;
import java.util.Map;

/** A call by its name and arguments, to be made of a Land or of a NaiveLand; true counts 1, false 0. */
final class Call {
    private static final Map<String, Method> METHODS = new HashMap<>();
    private final String name;
    private final Object[] args;

    private Call(String name, Object[] args) {
        this.name = name;
        this.args = args;
    }

    static Call of(String name, Object... args) {
        return new Call(name, args);
    }

    String name() {
        return name;
    }

    /** The same call with another argument at this place. */
    Call with(int place, Object other) {
        Object[] changed = args.clone();
        changed[place] = other;
        return new Call(name, changed);
    }

    long on(Object land) {
        Method method = METHODS.computeIfAbsent(land.getClass().getName() + "." + name, key -> find(land.getClass()));
        try {
            Object answer = method.isVarArgs() ? method.invoke(land, (Object) ints()) : method.invoke(land, args);
            return answer instanceof Boolean is ? (is ? 1 : 0) : ((Number) answer).longValue();
        } catch (IllegalAccessException | InvocationTargetException e) {
            throw new IllegalStateException(this.toString(), e);
        }
    }

    private Method find(Class<?> of) {
        for (Method m : of.getDeclaredMethods()) {
            if (m.getName().equals(name) && (m.isVarArgs() || m.getParameterCount() == args.length)) {
                return m;
            }
        }
        throw new IllegalStateException(of + " has no " + name);
    }

    private int[] ints() {
        int[] all = new int[args.length];
        for (int i = 0; i < all.length; i++) {
            all[i] = (Integer) args[i];
        }
        return all;
    }

    @Override
    public String toString() {
        StringBuilder s = new StringBuilder(name).append('(');
        for (int i = 0; i < args.length; i++) {
            s.append(i == 0 ? "" : ", ").append(args[i]);
        }
        return s.append(')').toString();
    }

    /** The calls that feed a text, filled up with blanks to whole feeds. */
    static List<Call> feeds(String text) {
        List<Call> all = new ArrayList<>();
        byte[] whole = Check.filled(Check.bytes(text));
        for (int i = 0; i < whole.length; i += 20) {
            all.add(of("feed", Check.four(whole, i), Check.four(whole, i + 4), Check.four(whole, i + 8), Check.four(whole, i + 12),
                    Check.four(whole, i + 16)));
        }
        return all;
    }

    /** The calls that tell a LAW. */
    static List<Call> law(String text) {
        List<Call> all = feeds(text);
        all.add(of("law", text.length()));
        return all;
    }
}
