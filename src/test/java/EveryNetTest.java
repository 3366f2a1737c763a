import java.util.ArrayList;
import java.util.Arrays;
import java.util.List;

/**
 * Every net of up to four places, however it is numbered, and every call on it with all arguments from one below to one
 * above what can be, answered by the class and by the model; up to three places every turn of every scene, too.
 */
public final class EveryNetTest {
    private static final int MOST_PLACES = 4;
    private static final int MOST_WITH_TURNS = 3;
    /** What calls behind the 512th answer is free: a new object goes on ahead of them. */
    private static final int MOST_CALLS = 440;
    private static final int MOST_WRONG = 5;
    private static int wrong = 0;
    private static long calls = 0;

    private final int places;
    private final String text;
    private Twins twins;

    private EveryNetTest(int places, String text) {
        this.places = places;
        this.text = text;
        renew();
    }

    public static void main(String[] args) {
        int nets = 0;
        for (int places = 0; places <= MOST_PLACES; places++) {
            for (int lines = 0; lines < 1 << places * (places - 1) / 2; lines++) {
                EveryNetTest test = new EveryNetTest(places, textOf(places, lines));
                test.goThrough();
                calls += test.twins.calls;
                nets++;
            }
        }
        System.out.println(nets + " nets, " + calls + " calls, " + wrong + " wrong");
        System.exit(wrong == 0 ? 0 : 1);
    }

    private static String textOf(int places, int lines) {
        StringBuilder couples = new StringBuilder();
        int i = 0;
        for (int p = 0; p < places; p++) {
            for (int q = p + 1; q < places; q++) {
                if ((lines >> i & 1) == 1) {
                    couples.append((char) ('a' + p)).append((char) ('a' + q)).append(' ');
                }
                i++;
            }
        }
        return Bench.text(places, couples.toString());
    }

    private void goThrough() {
        grid("about", range(-1, 9));
        grid("near", somePlaces());
        grid("distance", somePlaces(), somePlaces());
        grid("corner", somePlaces());
        grid("goes", range(-2, places));
        grid("left");
        grid("image", somePlaces());
        games();
        grid("symmetries");
        grid("alike", somePlaces());
        grid("guard", range(-1, 1 << places));
        grid("guards", range(-1, 1 << places), somePlaces(), somePlaces());
        grid("sweep", range(0, 3));
        grid("swept", range(0, 3), range(-1, 7), range(-1, 2));
        for (int kind = 0; kind < 3; kind++) {
            for (int[] row : rows()) {
                for (int runner = 0; runner < places; runner++) {
                    scene(kind, row, runner);
                }
            }
        }
        for (int what = -1; what <= 3; what++) {
            anew("become", what);
        }
        for (int one = -1; one <= places; one++) {
            for (int other = -1; other <= places; other++) {
                anew("toggle", one, other);
            }
        }
    }

    private void games() {
        int[] kinds = range(-1, 3);
        int[] hunters = range(0, 4);
        grid("fewest", kinds);
        grid("time", kinds, hunters);
        grid("start", kinds, hunters, range(-1, 3));
        grid("sure", kinds, somePlaces(), somePlaces(), somePlaces());
        grid("refusals", kinds, hunters);
        grid("refusal", kinds, hunters, new int[] {-1, 0, 1, 2, 3, 5, 8, 13, 21, 34}, range(-1, 4));
        grid("trial", kinds, hunters, new int[] {Integer.MIN_VALUE, -1, 0, 1, 7, 65536, 123456789});
        grid("helps", kinds, hunters);
    }

    private void scene(int kind, int[] row, int runner) {
        put("begin", kind, row[0], row[1], row[2], runner);
        lookAtScene();
        for (int[] to : rows()) {
            boolean stays = Arrays.equals(to, row);
            if ((places <= MOST_WITH_TURNS || stays) && isTaken("hunt", to[0], to[1], to[2])) {
                lookAtScene();
                for (int place = -1; place <= places; place++) {
                    if (isTaken("run", place)) {
                        put("scene", 2);
                        put("undo");
                    }
                }
                put("undo");
            }
            if (twins.calls > MOST_CALLS) {
                renew();
                put("begin", kind, row[0], row[1], row[2], runner);
            }
        }
        put("play", 5);
        put("scene", 2);
        renewIfLong();
    }

    private void lookAtScene() {
        for (int what = -1; what <= 13; what++) {
            put("scene", what);
        }
        for (int i = -1; i <= 3; i++) {
            put("best", i);
        }
        put("safe");
    }

    private void anew(String name, int... a) {
        if (isTaken(name, a)) {
            for (int p = 0; p < twins.model.about(0); p++) {
                put("near", p);
            }
            put("undo");
        }
        put("about", 1);
        renewIfLong();
    }

    /** The call, and whether it did something: a turn that was not done answers false, another act NONE. */
    private boolean isTaken(String name, int... a) {
        boolean isTurn = name.equals("hunt") || name.equals("run");
        return put(name, a) != (isTurn ? 0 : SureHunters.NONE);
    }

    private void grid(String name, int[]... arguments) {
        int count = 1;
        for (int[] some : arguments) {
            count *= some.length;
        }
        for (int i = 0; i < count; i++) {
            int[] a = new int[arguments.length];
            int rest = i;
            for (int j = 0; j < a.length; j++) {
                a[j] = arguments[j][rest % arguments[j].length];
                rest /= arguments[j].length;
            }
            put(name, a);
            renewIfLong();
        }
    }

    /** The answer that is due. */
    private int put(String name, int... a) {
        if (!twins.check(name, a)) {
            fail();
        }
        return twins.due;
    }

    private void renewIfLong() {
        if (twins.calls > MOST_CALLS) {
            renew();
        }
    }

    private void renew() {
        calls += twins == null ? 0 : twins.calls;
        twins = new Twins();
        if (!twins.tell(text)) {
            fail();
        }
    }

    private void fail() {
        wrong++;
        System.out.println(twins.told);
        if (wrong >= MOST_WRONG) {
            System.out.println("so many were wrong: the rest is not looked at");
            System.exit(1);
        }
    }

    private int[] somePlaces() {
        return range(-1, places);
    }

    private static int[] range(int from, int to) {
        int[] all = new int[to - from + 1];
        for (int i = 0; i < all.length; i++) {
            all[i] = from + i;
        }
        return all;
    }

    private List<int[]> rows() {
        List<int[]> rows = new ArrayList<>();
        for (int a = 0; a < places; a++) {
            rows.add(new int[] {a, -1, -1});
            for (int b = a; b < places; b++) {
                rows.add(new int[] {a, b, -1});
                for (int c = b; c < places; c++) {
                    rows.add(new int[] {a, b, c});
                }
            }
        }
        return rows;
    }
}
