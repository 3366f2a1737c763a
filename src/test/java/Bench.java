import java.lang.annotation.Retention;
import java.lang.annotation.RetentionPolicy;
import java.lang.reflect.InvocationTargetException;
import java.lang.reflect.Method;
import java.nio.charset.StandardCharsets;
import java.nio.file.Files;
import java.nio.file.Path;
import java.util.Arrays;
import java.util.Comparator;
import java.util.List;
import java.util.NoSuchElementException;
import java.util.Set;
import java.util.TreeSet;
import java.util.function.IntSupplier;

/** What the tests by hand share: nets, answers that are due, and sentences of the document with a test of their own. */
final class Bench {
    static final int NONE = SureHunters.NONE;
    static final int MIN = Integer.MIN_VALUE;
    static final int MAX = Integer.MAX_VALUE;
    /** Stands for a NoSuchElementException. */
    static final int THROWN = -77;
    private static final Path DOCUMENT = Path.of("../shared/DOC.md");
    private static int done = 0;
    private static int wrong = 0;
    private static String told = "";

    private Bench() {
    }

    /** A sentence of the document (promise 0: its terms) that a test alone stands for. */
    @Retention(RetentionPolicy.RUNTIME)
    @interface Says {
        int promise();

        String value();
    }

    /** Runs every test of a class that names a sentence, and ends with exit code 1 if one fails. */
    static void runSentences(Class<?> tests, int... promises) throws Exception {
        String document = Files.exists(DOCUMENT) ? Files.readString(DOCUMENT, StandardCharsets.ISO_8859_1) : null;
        List<Method> methods = Arrays.stream(tests.getDeclaredMethods())
                .filter(m -> m.isAnnotationPresent(Says.class))
                .sorted(Comparator.comparingInt((Method m) -> m.getAnnotation(Says.class).promise())
                        .thenComparing(Method::getName)).toList();
        Set<Integer> seen = new TreeSet<>();
        int failed = 0;
        for (Method test : methods) {
            Says says = test.getAnnotation(Says.class);
            seen.add(says.promise());
            boolean quoted = document == null || section(document, says.promise()).contains(says.value());
            if (!quoted) {
                System.out.println(test.getName() + ": the document does not say so: " + says.value());
            }
            if (!passes(test, says) || !quoted) {
                failed++;
            }
        }
        for (int promise : promises) {
            if (!seen.contains(promise)) {
                failed++;
                System.out.println("no sentence of promise " + promise + " is tested");
            }
        }
        System.out.println(methods.size() + " sentences, " + done + " answers, " + failed + " failed");
        System.exit(failed == 0 ? 0 : 1);
    }

    private static String section(String document, int promise) {
        int from = document.indexOf(promise == 0 ? "## Terms" : "## Promise " + promise + ":");
        int end = document.indexOf("\n## ", from + 1);
        return from < 0 ? "" : document.substring(from, end < 0 ? document.length() : end);
    }

    private static boolean passes(Method test, Says says) throws IllegalAccessException {
        int before = wrong;
        int answers = done;
        told = (says.promise() == 0 ? "terms" : "promise " + says.promise()) + ", " + test.getName();
        try {
            test.setAccessible(true);
            test.invoke(null);
        } catch (InvocationTargetException e) {
            wrong++;
            System.out.println(told + ": " + e.getCause());
        }
        if (done == answers) {
            wrong++;
            System.out.println(told + ": nothing was looked at");
        }
        if (wrong != before) {
            System.out.println("FAILED: " + told + ": " + says.value());
        }
        return wrong == before;
    }

    static void due(String call, int got, int want) {
        done++;
        if (got != want) {
            wrong++;
            System.out.println(told + ": " + call + " answered " + got + ", due is " + want);
        }
    }

    static void due(String call, boolean got, boolean want) {
        due(call, got ? 1 : 0, want ? 1 : 0);
    }

    static int thrown(IntSupplier call) {
        try {
            return call.getAsInt();
        } catch (NoSuchElementException e) {
            return THROWN;
        }
    }

    /** A call that is refused: its answer, and that all which can be seen is as it was. */
    static void refused(SureHunters x, String call, IntSupplier called, int want) {
        String before = look(x);
        due(call, thrown(called), want);
        String after = look(x);
        done++;
        if (!before.equals(after)) {
            wrong++;
            System.out.println(told + ": " + call + " changed " + before + " to " + after);
        }
    }

    /** All that can be seen of the net, the scene, the acts, the tape and the latest fault. */
    static String look(SureHunters x) {
        StringBuilder seen = new StringBuilder();
        for (int what : new int[] {0, 7, 8}) {
            seen.append(x.about(what)).append(' ');
        }
        int places = x.about(0);
        for (int p = 0; p < places; p++) {
            seen.append(x.near(p)).append(' ');
        }
        for (int what : new int[] {0, 1, 2, 3, 4, 10, 11, 12}) {
            seen.append(x.scene(what)).append(' ');
        }
        return seen.append(x.fault(0)).append(' ').append(x.fault(1)).toString();
    }

    /** Bytes behind those on the tape. */
    static void feed(SureHunters x, String text) {
        byte[] bytes = text.getBytes(StandardCharsets.ISO_8859_1);
        byte[] padded = Arrays.copyOf(bytes, (bytes.length + 19) / 20 * 20);
        int before = x.about(8);
        for (int i = 0; i < padded.length; i += 20) {
            int[] v = new int[5];
            for (int j = 0; j < 20; j++) {
                v[j / 4] = v[j / 4] << 8 | padded[i + j] & 255;
            }
            x.feed(v[0], v[1], v[2], v[3], v[4]);
        }
        x.end(before + bytes.length);
    }

    /** What net() answers to a text, on a new object. */
    static int placesOf(String text) {
        SureHunters x = new SureHunters();
        feed(x, text);
        return x.net();
    }

    static void faulty(String text, int fault, int at) {
        SureHunters x = new SureHunters();
        feed(x, text);
        due("net() of " + text, x.net(), NONE);
        due("fault(0) of " + text, x.fault(0), fault);
        due("fault(1) of " + text, x.fault(1), at);
    }

    /** A net of places a, b, c .. with lines told as couples of letters: "ab bc". */
    static String text(int places, String lines) {
        StringBuilder text = new StringBuilder();
        for (int p = 0; p < places; p++) {
            text.append("place ").append((char) ('a' + p)).append(';');
        }
        for (String line : lines.split(" ")) {
            if (!line.isEmpty()) {
                text.append("line ").append(line.charAt(0)).append(' ').append(line.charAt(1)).append(';');
            }
        }
        return text.toString();
    }

    static SureHunters made(int places, String lines) {
        SureHunters x = new SureHunters();
        feed(x, text(places, lines));
        if (x.net() != places) {
            throw new IllegalStateException("the test's own net is wrong: " + lines);
        }
        return x;
    }

    static SureHunters path(int places) {
        return made(places, "ab bc cd de ef fg gh hi".substring(0, Math.max(0, 3 * places - 4)));
    }

    static SureHunters ring(int places) {
        char last = (char) ('a' + places - 1);
        return made(places, "ab bc cd de ef fg gh hi".substring(0, 3 * places - 4) + " a" + last);
    }

    static SureHunters complete(int places) {
        SureHunters x = made(places, "");
        x.become(1);
        return x;
    }

    /** Places without lines. */
    static SureHunters alone(int places) {
        return made(places, "");
    }

    /** Three rows of three, all in one row or column joined: the least net that three lazy hunters need. */
    static SureHunters rook() {
        return made(9, "ab ac bc de df ef gh gi hi ad ag dg be bh eh cf ci fi");
    }

    /** The scene's row of hunters as digits. */
    static int row(SureHunters x) {
        int digits = 0;
        for (int i = 0; i < x.scene(1); i++) {
            digits = 10 * digits + x.scene(10 + i);
        }
        return digits;
    }
}
