import java.util.Random;

/** Drawn runs of calls, each answered by the class and by the model. The seeds are fixed. */
public final class RandomRunsTest {
    private static final int RUNS = Integer.getInteger("runs", 400);
    private static final int SEED = Integer.getInteger("seed", 1);
    private static int wrong = 0;

    private final Random random;
    private final Twins twins = new Twins();
    private final Model model = twins.model;

    private RandomRunsTest(Random random) {
        this.random = random;
    }

    public static void main(String[] args) {
        long calls = 0;
        for (int run = 0; run < RUNS && wrong < 5; run++) {
            RandomRunsTest test = new RandomRunsTest(new Random(1000003L * SEED + run));
            test.goThrough(run);
            calls += test.twins.calls;
        }
        System.out.println(RUNS + " runs, " + calls + " calls, " + wrong + " wrong");
        System.exit(wrong == 0 ? 0 : 1);
    }

    private void goThrough(int run) {
        // Nine places are slow in the model: most nets are smaller.
        int most = run % 8 == 0 ? 9 : run % 3 == 0 ? 7 : 6;
        for (int i = 0; twins.calls < 470; i++) {
            boolean renew = i == 0 || random.nextInt(60) == 0;
            if (!(renew ? tellNet(random.nextInt(most + 1)) : anyCall())) {
                wrong++;
                System.out.println("run " + run + ": " + twins.told);
                return;
            }
        }
    }

    private boolean tellNet(int places) {
        String text = random.nextInt(6) == 0 ? spoiltText() : netText(places);
        return twins.tell(text) && check("fault", 0) && check("fault", 1) && check("about", 0);
    }

    private String netText(int places) {
        StringBuilder text = new StringBuilder();
        String[] names = {"a", "b", "c", "d", "e", "f", "g", "h", "i"};
        for (int p = 0; p < places; p++) {
            text.append("place ").append(names[p]).append(random.nextInt(4) == 0 ? " ;\n" : ";");
        }
        int density = random.nextInt(5) + 1;
        boolean ring = random.nextInt(3) == 0;
        for (int p = 0; p < places; p++) {
            for (int q = p + 1; q < places; q++) {
                boolean follows = q == p + 1 || p == 0 && q == places - 1;
                if (text.length() < 585 && (ring ? follows : random.nextInt(6) < density)) {
                    text.append("line ").append(names[p]).append(' ').append(names[q]).append(';');
                }
            }
        }
        return text.toString();
    }

    /** Words at random, or a good text with one byte changed. */
    private String spoiltText() {
        if (random.nextBoolean()) {
            StringBuilder text = new StringBuilder(netText(random.nextInt(10)));
            for (int i = random.nextInt(3); i >= 0 && text.length() > 0; i--) {
                String signs = "abplinece; ;\n7A\u00e9{`";
                text.setCharAt(random.nextInt(text.length()), signs.charAt(random.nextInt(signs.length())));
            }
            text.setLength(random.nextInt(4) == 0 ? random.nextInt(text.length() + 1) : text.length());
            return text.toString();
        }
        String[] words = {"place", "line", "a", "b", "c", ";", "abcdef", "abcdefg", "?", "lines", "placea"};
        StringBuilder text = new StringBuilder("place a;place b;");
        for (int i = random.nextInt(9); i >= 0; i--) {
            text.append(words[random.nextInt(words.length)]).append(random.nextInt(3) == 0 ? "" : " ");
        }
        return text.toString();
    }

    private int place() {
        return random.nextInt(12) == 0 ? random.nextInt(14) - 3 : random.nextInt(Math.max(1, model.about(0)));
    }

    private int kind() {
        return random.nextInt(15) == 0 ? random.nextInt(6) - 2 : random.nextInt(3);
    }

    private int hunters() {
        return random.nextInt(15) == 0 ? random.nextInt(6) - 1 : 1 + random.nextInt(3);
    }

    private int maybe(int place) {
        return random.nextInt(3) == 0 ? -1 : place;
    }

    private int[] row() {
        int b = maybe(place());
        int c = b == -1 && random.nextInt(9) != 0 ? -1 : maybe(place());
        return new int[] {place(), b, c};
    }

    private int set() {
        int n = model.about(0);
        return random.nextInt(12) == 0 ? random.nextInt(1100) - 30 : random.nextInt(1 << n);
    }

    private int index() {
        return random.nextInt(12) == 0 ? random.nextInt() : random.nextInt(8) - 2;
    }

    private boolean anyCall() {
        int[] r = row();
        switch (random.nextInt(40)) {
            case 0:
                return check("fault", index());
            case 1:
            case 2:
                return check("about", random.nextInt(12) - 1);
            case 3:
                return check("near", place());
            case 4:
                return check("distance", place(), place());
            case 5:
                return check("corner", place());
            case 6:
                return check("goes", index());
            case 7:
                return check("left") && check("image", place());
            case 8:
                return check("fewest", kind());
            case 9:
                return check("time", kind(), hunters());
            case 10:
                return check("start", kind(), hunters(), index());
            case 11:
                return check("sure", kind(), r[0], r[1], r[2]);
            case 12:
                return check("refusals", kind(), hunters());
            case 13:
                return check("refusal", kind(), hunters(), random.nextInt(60) - 1, random.nextInt(6) - 1);
            case 14:
            case 15:
                return check("trial", kind(), hunters(), random.nextInt());
            case 16:
                return check("helps", kind(), hunters());
            case 17:
                return check("symmetries") && check("alike", place());
            case 18:
                return check("guard", set());
            case 19:
                return check("guards", set(), place(), place());
            case 20:
                return check("sweep", random.nextInt(4));
            case 21:
                return check("swept", random.nextInt(4), random.nextInt(12) - 1, random.nextInt(4) - 1);
            case 22:
            case 23:
            case 24:
                return check("begin", kind(), r[0], r[1], r[2], place());
            case 25:
                return wholeScene();
            case 26:
                return check("best", index());
            case 27:
            case 28:
                return wholeScene() && handTurn();
            case 29:
            case 30:
                return handTurn() && handTurn() && wholeScene();
            case 31:
                return check("play", random.nextInt(8) == 0 ? random.nextInt(104) - 1 : 1 + random.nextInt(4));
            case 32:
                return check("hunt", r[0], r[1], r[2]);
            case 33:
                return check("run", place());
            case 34:
                return random.nextInt(3) != 0 || check("toggle", place(), place());
            case 35:
                return random.nextInt(4) != 0 || check("become", random.nextInt(5) - 1);
            case 36:
                return check("undo") && wholeScene() && check("about", 0) && check("about", 1) && check("about", 7);
            case 37:
            case 38:
                return oddCall();
            default:
                return random.nextInt(4) != 0 || check("end", random.nextInt(5) - 1)
                        && check("feed", random.nextInt(), -1, 0, Integer.MIN_VALUE, 7) && check("about", 8);
        }
    }

    /** Any call with any numbers: what can't be must be refused, and nothing else may be thrown. */
    private boolean oddCall() {
        String[] names = {"fault", "about", "near", "distance", "corner", "goes", "image", "fewest", "time", "start",
            "sure", "refusals", "refusal", "trial", "helps", "alike", "guard", "guards", "sweep", "swept", "begin",
            "scene", "best", "hunt", "run", "play", "toggle", "become", "end"};
        int[] odd = {Integer.MIN_VALUE, Integer.MAX_VALUE, -2, -1, 0, 1, 2, 3, 8, 9, 10, 13, 31, 32, 33, 64, 511, 512};
        String name = names[random.nextInt(names.length)];
        int[] a = new int[Twins.parametersOf(name)];
        for (int i = 0; i < a.length; i++) {
            a[i] = random.nextBoolean() ? place() : odd[random.nextInt(odd.length)];
        }
        return check(name, a);
    }

    private boolean wholeScene() {
        boolean good = true;
        for (int what = -1; what <= 14 && good; what++) {
            good = check("scene", what);
        }
        return good && check("best", 0) && check("best", 1) && check("best", 2) && check("safe");
    }

    /** A turn that can mostly be done. */
    private boolean handTurn() {
        int hunters = model.scene(1);
        if (hunters < 1) {
            return true;
        }
        if (model.scene(3) == 1) {
            return check("run", random.nextInt(3) == 0 ? model.best(0) : place());
        }
        int[] to = {-1, -1, -1};
        for (int i = 0; i < hunters; i++) {
            to[i] = random.nextInt(3) == 0 ? place() : random.nextBoolean() ? model.scene(10 + i) : model.best(i);
        }
        if (random.nextBoolean() && hunters == 3) {
            to = new int[] {to[2], to[0], to[1]};
        }
        return check("hunt", to);
    }

    private boolean check(String name, int... a) {
        return twins.check(name, a);
    }
}
