import java.lang.reflect.Method;
import java.nio.charset.StandardCharsets;
import java.nio.file.Files;
import java.nio.file.Path;
import java.util.ArrayList;
import java.util.List;
import java.util.Set;
import java.util.TreeSet;
import java.util.regex.Matcher;
import java.util.regex.Pattern;

/** What README.md says: its calls answer so, its method tells a net, its tests are those that there are. */
public final class ReadmeTest {
    private static final Pattern CALL = Pattern.compile("x\\.(\\w+)\\((.*?)\\);\\s+// (-?\\d+|true|false): .*");
    private static final int LEAST_CALLS = 20;
    private static int wrong = 0;

    public static void main(String[] args) throws Exception {
        String readme = Files.readString(Path.of("README.md"), StandardCharsets.ISO_8859_1);
        List<String> blocks = javaBlocks(readme);
        hold(blocks.size() == 2, "two blocks of Java");
        int calls = putCalls(blocks.get(0));
        hold(calls >= LEAST_CALLS, "so many calls: " + calls);
        String own = Files.readString(Path.of("src/test/java/ReadmeTest.java"), StandardCharsets.ISO_8859_1);
        hold(squeezed(own).contains(squeezed(blocks.get(1))), "its method is the one that is tried here");
        SureHunters x = new SureHunters();
        hold(tell(x, Bench.text(9, "ab bc cd de ef fg gh hi ai")) == 9 && x.about(1) == 9, "its method tells a net");
        hold(tell(x, "") == 0 && tell(x, "place abcdef;place b") == -1 && x.fault(1) == 20, "edges of its method");
        hold(namesOf(readme).containsAll(facesNames()), "each call is named");
        for (String test : testsNames()) {
            hold(readme.contains("`" + test + "`"), "each test is named: " + test);
        }
        System.out.println(calls + " calls, " + wrong + " wrong");
        System.exit(wrong == 0 ? 0 : 1);
    }

    static int tell(SureHunters x, String text) {
        for (int i = 0; i < text.length(); i += 20) {
            int[] five = new int[5];
            for (int j = i; j < i + 20; j++) {
                five[(j - i) / 4] = five[(j - i) / 4] << 8 | (j < text.length() ? text.charAt(j) : 0);
            }
            x.feed(five[0], five[1], five[2], five[3], five[4]);
        }
        x.end(text.length());
        return x.net();
    }

    private static void hold(boolean good, String what) {
        if (!good) {
            wrong++;
            System.out.println("README.md does not hold: " + what);
        }
    }

    private static List<String> javaBlocks(String text) {
        List<String> blocks = new ArrayList<>();
        Matcher block = Pattern.compile("(?s)```java\n(.*?)```").matcher(text);
        while (block.find()) {
            blocks.add(block.group(1));
        }
        return blocks;
    }

    private static int putCalls(String block) throws Exception {
        SureHunters x = new SureHunters();
        int calls = 0;
        for (String line : block.split("\n")) {
            Matcher call = CALL.matcher(line);
            if (call.matches()) {
                calls++;
                String got = String.valueOf(answer(x, call.group(1), call.group(2)));
                hold(got.equals(call.group(3)), line + " answers " + got);
            } else {
                hold(line.equals("SureHunters x = new SureHunters();"), "a call with its answer: " + line);
            }
        }
        return calls;
    }

    private static Object answer(SureHunters x, String name, String arguments) throws Exception {
        List<Object> numbers = new ArrayList<>();
        for (String one : arguments.split(", ")) {
            if (!one.isEmpty()) {
                numbers.add(one.equals("SureHunters.NONE") ? SureHunters.NONE : Integer.decode(one));
            }
        }
        for (Method method : SureHunters.class.getMethods()) {
            if (method.getName().equals(name) && method.getDeclaringClass() == SureHunters.class) {
                return method.invoke(x, numbers.toArray());
            }
        }
        return "nothing: there is no such call";
    }

    private static String squeezed(String text) {
        return text.replaceAll("\\s+", " ").trim();
    }

    private static Set<String> namesOf(String text) {
        Set<String> names = new TreeSet<>();
        Matcher quoted = Pattern.compile("`(\\w+)`").matcher(text);
        while (quoted.find()) {
            names.add(quoted.group(1));
        }
        return names;
    }

    private static Set<String> facesNames() {
        Set<String> names = new TreeSet<>();
        for (Method method : SureHunters.class.getMethods()) {
            if (method.getDeclaringClass() == SureHunters.class) {
                names.add(method.getName());
            }
        }
        return names;
    }

    private static List<String> testsNames() throws Exception {
        try (var files = Files.list(Path.of("src/test/java"))) {
            return files.map(file -> file.getFileName().toString()).filter(name -> name.endsWith("Test.java"))
                    .map(name -> name.substring(0, name.length() - 5)).sorted().toList();
        }
    }
}
