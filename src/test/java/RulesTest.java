import java.lang.management.ManagementFactory;
import java.lang.reflect.Constructor;
import java.lang.reflect.Field;
import java.lang.reflect.Method;
import java.lang.reflect.Modifier;
import java.nio.charset.StandardCharsets;
import java.nio.file.Files;
import java.nio.file.Path;
import java.util.ArrayList;
import java.util.Arrays;
import java.util.HashSet;
import java.util.List;
import java.util.Set;
import java.util.TreeSet;
import java.util.regex.Matcher;
import java.util.regex.Pattern;

/** What LANGUAGE.md binds and can be seen from outside: the face, the words of the source, what a run makes. */
public final class RulesTest {
    private static final String[] FACE = {
        "feed(int,int,int,int,int)int", "end(int)int", "net()int", "fault(int)int", "about(int)int", "near(int)int",
        "distance(int,int)int", "corner(int)int", "goes(int)int", "left()int", "image(int)int", "fewest(int)int",
        "time(int,int)int", "start(int,int,int)int", "sure(int,int,int,int)int", "refusals(int,int)int",
        "refusal(int,int,int,int)int", "trial(int,int,int)int", "helps(int,int)int", "symmetries()int",
        "alike(int)int", "guard(int)int", "guards(int,int,int)int", "sweep(int)int", "swept(int,int,int)int",
        "begin(int,int,int,int,int)int", "scene(int)int", "best(int)int", "safe()int", "hunt(int,int,int)boolean",
        "run(int)boolean", "play(int)int", "toggle(int,int)int", "become(int)int", "undo()boolean"};
    private static final int MOST_LINES = 60;
    private static final int MOST_PARAMETERS = 7;
    private static final int MOST_CLASSES = 12;
    private static final int MOST_FIELDS = 20;
    /** Far below the room's 7.3 million fields and elements of up to eight bytes. */
    private static final long MOST_BYTES = 2_000_000;
    private static int wrong = 0;

    public static void main(String[] args) throws Exception {
        face();
        classes();
        source(Files.readString(Path.of(args.length > 0 ? args[0] : "src/main/java/SureHunters.java"),
                StandardCharsets.ISO_8859_1));
        room();
        System.out.println(wrong + " rules broken");
        System.exit(wrong == 0 ? 0 : 1);
    }

    private static void hold(boolean good, String rule) {
        if (!good) {
            wrong++;
            System.out.println("broken: " + rule);
        }
    }

    private static void face() throws Exception {
        Set<String> told = new TreeSet<>(Arrays.asList(FACE));
        Set<String> found = new TreeSet<>();
        Class<?> c = SureHunters.class;
        for (Method m : c.getDeclaredMethods()) {
            if (!Modifier.isPrivate(m.getModifiers())) {
                List<String> types = new ArrayList<>();
                for (Class<?> type : m.getParameterTypes()) {
                    types.add(type.getName());
                }
                found.add(m.getName() + "(" + String.join(",", types) + ")" + m.getReturnType().getName());
                hold(Modifier.isPublic(m.getModifiers()), "1: only public or private: " + m.getName());
            }
        }
        hold(found.equals(told), "1: the methods of the face: " + found);
        for (Field f : c.getDeclaredFields()) {
            hold(Modifier.isPrivate(f.getModifiers()) || f.getName().equals("NONE"), "1: private: " + f.getName());
        }
        for (Constructor<?> k : c.getDeclaredConstructors()) {
            hold(Modifier.isPublic(k.getModifiers()) && k.getParameterCount() == 0, "1: one constructor");
        }
        hold(Modifier.isFinal(c.getModifiers()) && Modifier.isPublic(c.getModifiers()), "1: public final");
        hold(c.getMethod("distance", int.class, int.class).getExceptionTypes().length == 1, "1: distance throws");
        hold(c.getMethod("corner", int.class).getExceptionTypes().length == 1, "1: corner throws");
    }

    private static void classes() {
        Set<String> names = new HashSet<>();
        for (String one : FACE) {
            names.add(one.substring(0, one.indexOf('(')));
        }
        List<Class<?>> all = new ArrayList<>(List.of(SureHunters.class));
        all.addAll(Arrays.asList(SureHunters.class.getDeclaredClasses()));
        hold(all.size() <= MOST_CLASSES, "11: so many classes: " + all.size());
        for (Class<?> c : all) {
            int fields = 0;
            for (Field f : c.getDeclaredFields()) {
                boolean fixed = Modifier.isStatic(f.getModifiers());
                fields += fixed ? 0 : 1;
                hold(!fixed || Modifier.isFinal(f.getModifiers()), "5: final: " + f);
            }
            hold(fields <= MOST_FIELDS, "11: so many fields: " + c);
            hold(c == SureHunters.class || Modifier.isStatic(c.getModifiers()), "1: static: " + c);
            for (Method m : c.getDeclaredMethods()) {
                hold(m.getParameterCount() <= MOST_PARAMETERS, "11: so many parameters: " + m);
                hold(Modifier.isPublic(m.getModifiers()) || !names.contains(m.getName()), "1: a name twice: " + m);
                hold(!m.isSynthetic(), "2: no lambda: " + m);
            }
        }
    }

    private static void source(String text) {
        String code = text.replaceAll("(?s)/\\*.*?\\*/", "").replaceAll("//[^\n]*", "");
        String[] banned = {"synchronized", "assert", "finally", "catch", "try", "var", "System", "Random", "Object",
            "Thread", "hashCode", "toString", "Exact", "::", "->", "package", "Double", "float", "double"};
        for (String word : banned) {
            String pattern = Character.isLetter(word.charAt(0)) ? "\\b" + word + "\\b" : Pattern.quote(word);
            hold(!Pattern.compile(pattern).matcher(code).find(), "not in the language or not needed: " + word);
        }
        Matcher imports = Pattern.compile("import ([\\w.]+);").matcher(code);
        while (imports.find()) {
            hold(Set.of("java.util.Arrays", "java.util.NoSuchElementException").contains(imports.group(1)),
                    "4: " + imports.group(1));
        }
        hold(!Pattern.compile("while\\s*\\(").matcher(code).find(), "9: loops are counted");
        hold(!Pattern.compile("[^\\x00-\\x7f]").matcher(text).find(), "4: signs 1 to 127");
        int from = -1;
        String[] lines = text.split("\n");
        for (int i = 0; i < lines.length; i++) {
            if (lines[i].matches("\\s+(public|private) .*\\) .*\\{")) {
                from = i;
            } else if (lines[i].matches(" {4,8}\\}") && from >= 0) {
                hold(i - from < MOST_LINES, "11: a long method at line " + (from + 1));
            }
        }
    }

    /** The dearest calls, each behind a change of the net, on one object: what they make stays small. */
    private static void room() {
        com.sun.management.ThreadMXBean bean = (com.sun.management.ThreadMXBean) ManagementFactory.getThreadMXBean();
        dearCalls();
        long before = bean.getThreadAllocatedBytes(Thread.currentThread().getId());
        int calls = dearCalls();
        long made = bean.getThreadAllocatedBytes(Thread.currentThread().getId()) - before;
        System.out.println(calls + " dear calls made " + made + " bytes");
        hold(made < MOST_BYTES, "12: what a run makes: " + made);
    }

    private static int dearCalls() {
        SureHunters x = new SureHunters();
        x.feed(0x706c6163, 0x6520613b, 0x706c6163, 0x6520623b, 0x706c6163);
        x.feed(0x6520633b, 0x706c6163, 0x6520643b, 0x706c6163, 0x6520653b);
        x.feed(0x706c6163, 0x6520663b, 0x706c6163, 0x6520673b, 0x706c6163);
        x.feed(0x6520683b, 0x706c6163, 0x6520693b, 0x20202020, 0x20202020);
        hold(x.net() == 9, "the test's own net");
        int calls = 5;
        for (int i = 0; calls < 500; i++) {
            x.toggle(i % 9, (i * 4 + 1) % 9);
            x.sweep(2);
            x.swept(1, 0, 0);
            x.helps(i % 3, 2);
            x.helps(i % 3, 1);
            x.trial(i % 3, 3, i);
            x.fewest((i + 1) % 3);
            x.symmetries();
            x.alike(8);
            x.guard(7);
            x.begin(i % 3, 0, 4, 8, 2);
            x.play(100);
            x.become(i % 7 == 0 ? 1 : 3);
            x.about(6);
            x.about(4);
            x.image(8);
            x.undo();
            calls += 17;
        }
        return calls;
    }
}
