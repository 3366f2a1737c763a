import java.lang.reflect.InvocationTargetException;
import java.lang.reflect.Method;
import java.lang.reflect.Modifier;
import java.nio.charset.StandardCharsets;
import java.util.ArrayList;
import java.util.Arrays;
import java.util.HashMap;
import java.util.List;
import java.util.Map;
import java.util.NoSuchElementException;

/** A new object of the class and one of the model, to which the same calls are put. */
final class Twins {
    private static final int THROWN = Integer.MIN_VALUE;
    private static final Map<String, Method> METHODS = new HashMap<>();

    final SureHunters real = new SureHunters();
    final Model model = new Model();
    final List<String> told = new ArrayList<>();
    int calls = 0;
    /** The model's latest answer. */
    int due = 0;

    /** Whether both answer alike. */
    boolean check(String name, int... a) {
        calls++;
        due = answer(model, name, a);
        int got = answer(real, name, a);
        told.add(name + Arrays.toString(a) + "=" + (due == THROWN ? "throws" : "" + due));
        if (got != due) {
            told.add("but answered " + (got == THROWN ? "throws" : "" + got));
        }
        return got == due;
    }

    /** The tape is this text alone, then it is read. */
    boolean tell(String text) {
        if (!check("end", 0)) {
            return false;
        }
        byte[] bytes = text.getBytes(StandardCharsets.ISO_8859_1);
        byte[] padded = Arrays.copyOf(bytes, (bytes.length + 19) / 20 * 20);
        for (int i = 0; i < padded.length; i += 20) {
            int[] five = new int[5];
            for (int j = 0; j < 20; j++) {
                five[j / 4] = five[j / 4] << 8 | padded[i + j] & 255;
            }
            if (!check("feed", five)) {
                return false;
            }
        }
        return check("end", bytes.length) && check("about", 8) && check("net");
    }

    static int parametersOf(String name) {
        return methodOf(Model.class, name).getParameterCount();
    }

    private int answer(Object of, String name, int[] a) {
        try {
            Object answer = methodOf(of.getClass(), name).invoke(of, Arrays.stream(a).boxed().toArray());
            return answer instanceof Boolean b ? (b ? 1 : 0) : (Integer) answer;
        } catch (InvocationTargetException e) {
            if (e.getCause() instanceof NoSuchElementException) {
                return THROWN;
            }
            throw new IllegalStateException(told + " and then " + name + Arrays.toString(a), e);
        } catch (IllegalAccessException e) {
            throw new IllegalStateException(e);
        }
    }

    private static Method methodOf(Class<?> owner, String name) {
        return METHODS.computeIfAbsent(owner.getName() + "." + name, key -> {
            for (Method m : owner.getDeclaredMethods()) {
                if (m.getName().equals(name) && !Modifier.isPrivate(m.getModifiers())) {
                    return m;
                }
            }
            throw new IllegalStateException("no method " + key);
        });
    }
}
