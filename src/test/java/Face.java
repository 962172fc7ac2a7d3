import java.lang.reflect.InvocationTargetException;
import java.lang.reflect.Method;
import java.lang.reflect.Modifier;
import java.util.Arrays;
import java.util.HashMap;
import java.util.List;
import java.util.Map;

/** The document's calls by their names, on OnionNet or on the Model; a boolean counts 1 or 0. */
final class Face {
    /** So many calls are promised of one object. */
    static final int CALLS = 512;
    static final List<String> NAMES = Arrays.stream(OnionNet.class.getDeclaredMethods())
            .filter(method -> Modifier.isPublic(method.getModifiers())).map(Method::getName).sorted().toList();
    private static final Map<String, Method> METHODS = new HashMap<>();

    private Face() {
    }

    /** A call that can be made again on another object. */
    record Call(String name, long... args) {
        @Override
        public String toString() {
            String row = Arrays.toString(args);
            return name + "(" + row.substring(1, row.length() - 1) + ")";
        }
    }

    /** Arguments that are more than the method takes are left out, those that lack are 0. */
    static int answer(Object on, Call call) {
        Method method = method(on.getClass(), call.name);
        Class<?>[] types = method.getParameterTypes();
        Object[] given = new Object[types.length];
        for (int i = 0; i < types.length; i++) {
            long arg = i < call.args.length ? call.args[i] : 0;
            if (types[i] == long.class) {
                given[i] = arg;
            } else {
                given[i] = (int) arg;
            }
        }
        try {
            Object answer = method.invoke(on, given);
            return answer instanceof Boolean told ? (told ? 1 : 0) : (Integer) answer;
        } catch (InvocationTargetException e) {
            throw new IllegalStateException(call + " threw " + e.getCause(), e.getCause());
        } catch (IllegalAccessException e) {
            throw new IllegalStateException(e);
        }
    }

    /** How many arguments a call of that name takes; the first of some is a long. */
    static Class<?>[] types(String name) {
        return method(OnionNet.class, name).getParameterTypes();
    }

    static boolean answersBoolean(String name) {
        return method(OnionNet.class, name).getReturnType() == boolean.class;
    }

    /** What a call of that name answers when it is refused. */
    static int refusal(String name) {
        return answersBoolean(name) ? 0 : OnionNet.NONE;
    }

    private static Method method(Class<?> on, String name) {
        return METHODS.computeIfAbsent(on.getName() + "." + name, unused -> Arrays.stream(on.getDeclaredMethods())
                .filter(one -> one.getName().equals(name)).findFirst().orElseThrow());
    }
}
