/** The net anew, and undo: each sentence that names a boundary has a test of its own. */
public final class AnewBoundsTest {
    private static final int NONE = Bench.NONE;
    private static final int MIN = Bench.MIN;
    private static final int MAX = Bench.MAX;

    public static void main(String[] args) throws Exception {
        Bench.runSentences(AnewBoundsTest.class, 0, 34, 35, 36);
    }

    private static int asNumber(boolean done) {
        return done ? 1 : 0;
    }

    // ---- the terms

    @Bench.Says(promise = 0, value = "ACTS: a SCENE begins, a turn is done, by hand or by itself; a LINE comes or goes; become().")
    static void whatAnActIs() {
        SureHunters x = Bench.path(4);
        x.begin(0, 0, NONE, NONE, 3);
        Bench.due("a scene begins", x.about(7), 1);
        x.hunt(1, NONE, NONE);
        Bench.due("a turn by hand", x.about(7), 2);
        x.run(3);
        Bench.due("the runner's, too", x.about(7), 3);
        x.play(1);
        Bench.due("a turn by itself", x.about(7), 4);
        x.toggle(0, 3);
        Bench.due("a line comes", x.about(7), 5);
        x.toggle(0, 3);
        Bench.due("a line goes", x.about(7), 6);
        x.become(1);
        Bench.due("become()", x.about(7), 7);
        x.helps(0, 1);
        x.trial(0, 1, 1);
        x.feed(0, 0, 0, 0, 0);
        x.end(0);
        Bench.due("nothing else", x.about(7), 7);
    }

    @Bench.Says(promise = 0, value = "UNDO takes back the latest that was not (the NET, the SCENE are as ahead of it)")
    static void undoTakesBackTheLatest() {
        SureHunters x = Bench.path(4);
        x.begin(2, 0, 1, NONE, 3);
        x.hunt(1, 1, NONE);
        x.toggle(0, 3);
        x.become(1);
        x.begin(0, 3, NONE, NONE, 0);
        x.undo();
        Bench.due("no scene yet", x.scene(0), -2);
        x.undo();
        Bench.due("not turned round", x.near(0), 1 | 2 | 8);
        Bench.due("no scene behind the line", x.scene(0), -2);
        x.undo();
        Bench.due("the line is gone", x.near(0), 3);
        Bench.due("the scene is back", x.scene(0) * 1000 + Bench.row(x) * 10 + x.scene(2), 2113);
        Bench.due("its turn", x.scene(3), 1);
        x.undo();
        Bench.due("the row", Bench.row(x), 1);
        x.toggle(1, 3);
        x.undo();
        Bench.due("a new act behind undo is taken back first", Bench.row(x), 1);
        x.undo();
        Bench.due("no scene at first", x.scene(0), -2);
        Bench.due("no acts", x.about(7), 0);
    }

    @Bench.Says(promise = 0, value = "(the NET, the SCENE are as ahead of it)")
    static void nothingIsToldOfAFormerNet() {
        // Each net is asked about everything, so an answer that outlives its net would show (within 512 calls).
        SureHunters x = Bench.path(5);
        sameAnswers("a path", x, Bench.path(5));
        x.toggle(0, 4);
        sameAnswers("a line more", x, Bench.ring(5));
        x.toggle(2, 3);
        x.become(1);
        sameAnswers("a line fewer, turned round", x, Bench.made(5, "ac ad bd be cd ce"));
        x.undo();
        sameAnswers("not turned round", x, Bench.made(5, "ab bc de ea"));
        x.undo();
        x.undo();
        sameAnswers("a path again", x, Bench.path(5));
        Bench.feed(x, Bench.text(3, "ab bc ca"));
        x.net();
        sameAnswers("a net anew", x, Bench.ring(3));
    }

    private static void sameAnswers(String net, SureHunters x, SureHunters fresh) {
        Bench.due(net + ": whether all answers are those of a new object", answers(x).equals(answers(fresh)), true);
    }

    private static String answers(SureHunters x) {
        StringBuilder told = new StringBuilder();
        for (int what = 0; what <= 6; what++) {
            told.append(x.about(what)).append(' ');
        }
        for (int p = NONE; p < x.about(0); p++) {
            told.append(x.near(p)).append(' ').append(x.goes(p)).append(' ').append(x.image(p)).append(' ');
            told.append(x.alike(p)).append(' ').append(x.guard(1 << p & 511)).append(' ');
        }
        for (int kind = 0; kind < 3; kind++) {
            for (int hunters = 1; hunters <= 2; hunters++) {
                told.append(x.time(kind, hunters)).append(' ').append(x.refusals(kind, hunters)).append(' ');
                told.append(x.helps(kind, hunters)).append(' ').append(x.trial(kind, hunters, 5)).append(' ');
            }
        }
        told.append(x.symmetries()).append(' ').append(x.left()).append(' ');
        return told.append(x.sweep(1)).append(' ').append(x.sweep(2)).toString();
    }

    @Bench.Says(promise = 0, value = "12 are kept, the oldest go.")
    static void twelveAreKept() {
        SureHunters x = Bench.alone(9);
        for (int p = 1; p <= 8; p++) {
            x.toggle(0, p);
        }
        for (int p = 2; p <= 8; p++) {
            x.toggle(1, p);
        }
        Bench.due("of fifteen", x.about(7), 12);
        for (int i = 12; i >= 1; i--) {
            Bench.due("undo", x.undo(), true);
            Bench.due("lines", x.about(1), 3 + i - 1);
        }
        Bench.due("the oldest three stay", x.near(0), 1 | 2 | 4 | 8);
        Bench.refused(x, "there is none", () -> asNumber(x.undo()), 0);
    }

    @Bench.Says(promise = 0, value = "12 are kept, the oldest go. Behind a LINE, become() there is no SCENE.")
    static void twelveAreKeptTimeAndAgain() {
        // Seventy-two acts, the lines among them taken back: those that are kept go round and round.
        SureHunters x = Bench.alone(9);
        int standing = 0;
        for (int i = 0; i < 36; i++) {
            x.toggle(i / 9, 5 + i % 4);
            x.undo();
            x.begin(0, i % 9, NONE, NONE, i % 7);
            standing += x.scene(10) == i % 9 ? 1 : 0;
        }
        Bench.due("each scene stands", standing, 36);
        Bench.due("kept", x.about(7), 12);
        for (int i = 34; i >= 24; i--) {
            x.undo();
            Bench.due("the scene ahead", x.scene(10) * 10 + x.scene(2), i % 9 * 10 + i % 7);
        }
        x.undo();
        Bench.due("the last that is kept", x.scene(10) * 10 + x.scene(2), 23 % 9 * 10 + 23 % 7);
        Bench.due("there is none", x.undo(), false);
    }

    @Bench.Says(promise = 0, value = "Behind a LINE, become() there is no SCENE.")
    static void noSceneBehindALine() {
        SureHunters x = Bench.path(4);
        x.begin(0, 0, NONE, NONE, 3);
        x.toggle(0, 2);
        Bench.due("a line comes", x.scene(0), -2);
        x.begin(0, 0, NONE, NONE, 3);
        x.toggle(0, 2);
        Bench.due("a line goes", x.scene(0), -2);
        for (int what = 2; what >= 0; what--) {
            SureHunters y = Bench.ring(4);
            y.begin(0, 0, NONE, NONE, 3);
            y.become(what);
            Bench.due("become(" + what + ")", y.scene(0), -2);
            Bench.due("hunt", y.hunt(0, NONE, NONE), false);
            Bench.due("play", y.play(1), NONE);
        }
    }

    // ---- promise 34

    @Bench.Says(promise = 34, value = "A LINE comes between two PLACES, or goes, if there is one: 1 it came, 0 it went")
    static void aLineComesOrGoes() {
        SureHunters x = Bench.alone(9);
        Bench.due("it comes", x.toggle(8, 0), 1);
        Bench.due("from both ends", x.near(0) + x.near(8), 257 + 257);
        Bench.due("told from the other end it goes", x.toggle(0, 8), 0);
        Bench.due("from both ends", x.near(0) + x.near(8), 1 + 256);
        SureHunters y = Bench.complete(9);
        Bench.due("of all couples it goes", y.toggle(7, 8), 0);
        Bench.due("lines", y.about(1), 35);
    }

    @Bench.Says(promise = 34, value = "NONE, doing nothing, if one can't be, or they are one.")
    static void lineOfWhatCannotBe() {
        SureHunters x = Bench.path(3);
        x.begin(0, 0, NONE, NONE, 2);
        for (int p = 0; p < 3; p++) {
            int place = p;
            Bench.refused(x, "they are one", () -> x.toggle(place, place), NONE);
        }
        for (int place : new int[] {-1, 3, 9, 32, MIN, MAX}) {
            Bench.refused(x, "the first is " + place, () -> x.toggle(place, 0), NONE);
            Bench.due("the other is " + place, x.toggle(0, place), NONE);
            Bench.due("both are " + place, x.toggle(place, place), NONE);
        }
        Bench.due("acts", x.about(7), 1);
        SureHunters empty = new SureHunters();
        Bench.refused(empty, "without places", () -> empty.toggle(0, 1), NONE);
        SureHunters one = Bench.alone(1);
        Bench.refused(one, "one place", () -> one.toggle(0, 0), NONE);
    }

    @Bench.Says(promise = 34, value = "(An ACT.)")
    static void aLineIsAnAct() {
        SureHunters x = Bench.path(3);
        x.fewest(0);
        x.toggle(0, 2);
        x.toggle(0, 1);
        Bench.due("acts", x.about(7), 2);
        x.undo();
        Bench.due("lines", x.about(1), 3);
        x.undo();
        Bench.due("lines", x.about(1), 2);
        Bench.due("games", x.time(0, 1), 1);
    }

    // ---- promise 35

    @Bench.Says(promise = 35, value = "what 0: those LEFT alone (numbered anew, in their order)")
    static void thoseLeftAlone() {
        SureHunters x = Bench.path(9);
        Bench.due("one of nine", x.become(0), 1);
        Bench.due("near", x.near(0), 1);
        Bench.due("of one place", x.become(0), 1);
        SureHunters y = Bench.ring(9);
        Bench.due("all of nine", y.become(0), 9);
        Bench.due("lines", y.about(1), 9);
        // 0 and 5 hang on a ring of four, 1 2 3 4.
        SureHunters z = Bench.made(6, "bc cd de eb ab ef");
        Bench.due("four of six", z.become(0), 4);
        Bench.due("in their order", z.near(0), 1 | 2 | 8);
        Bench.due("in their order", z.near(3), 1 | 4 | 8);
        SureHunters parts = Bench.made(4, "ab cd");
        Bench.due("of two parts two", parts.become(0), 2);
        Bench.due("no lines", parts.about(1), 0);
    }

    @Bench.Says(promise = 35, value = "1: turned round (a LINE where there was none, none where there was)")
    static void turnedRound() {
        SureHunters x = Bench.alone(9);
        Bench.due("nine alone", x.become(1), 9);
        Bench.due("all couples", x.about(1), 36);
        Bench.due("near itself still", x.near(4), 511);
        x.become(1);
        Bench.due("and back", x.about(1), 0);
        x.undo();
        Bench.due("undone: all couples", x.about(1), 36);
        x.undo();
        Bench.due("undone: nine alone", x.about(1), 0);
        Bench.due("one place", Bench.alone(1).become(1), 1);
    }

    @Bench.Says(promise = 35, value = "2: twice (PLACE p and n + p, LINES likewise, and one from each p to n + p; up to 4 PLACES)")
    static void twiceUpToFour() {
        SureHunters x = Bench.alone(4);
        Bench.due("four", x.become(2), 8);
        Bench.due("lines", x.about(1), 4);
        Bench.due("p to n + p", x.near(3), 8 | 128);
        SureHunters y = Bench.complete(4);
        Bench.due("four, all couples", y.become(2), 8);
        Bench.due("lines", y.about(1), 6 + 6 + 4);
        Bench.due("n + p", y.near(7), 16 | 32 | 64 | 128 | 8);
        Bench.due("one", Bench.alone(1).become(2), 2);
        SureHunters z = Bench.alone(5);
        Bench.refused(z, "five", () -> z.become(2), NONE);
        SureHunters nine = Bench.path(9);
        Bench.refused(nine, "nine", () -> nine.become(2), NONE);
    }

    @Bench.Says(promise = 35, value = "NONE, doing nothing, if it can't be, without PLACES, or for another what.")
    static void becomeWhatCannotBe() {
        SureHunters empty = new SureHunters();
        for (int what = -1; what <= 3; what++) {
            int told = what;
            Bench.refused(empty, "without places: become(" + what + ")", () -> empty.become(told), NONE);
        }
        SureHunters x = Bench.path(5);
        x.toggle(0, 4);
        x.begin(0, 0, NONE, NONE, 2);
        x.hunt(1, NONE, NONE);
        Bench.refused(x, "twice five", () -> x.become(2), NONE);
        for (int what : new int[] {-1, 3, 4, MIN, MAX}) {
            Bench.refused(x, "become(" + what + ")", () -> x.become(what), NONE);
        }
    }

    @Bench.Says(promise = 35, value = "(An ACT.)")
    static void becomeIsAnAct() {
        SureHunters x = Bench.ring(4);
        x.become(0);
        Bench.due("also if all are left", x.about(7), 1);
        x.become(1);
        x.become(1);
        x.become(2);
        Bench.due("acts", x.about(7), 4);
        x.undo();
        Bench.due("places", x.about(0), 4);
        x.undo();
        Bench.due("lines", x.about(1), 2);
        x.undo();
        x.undo();
        Bench.due("lines", x.about(1), 4);
        Bench.due("there is none", x.undo(), false);
    }

    // ---- promise 36

    @Bench.Says(promise = 36, value = "UNDO: true; false if there is none.")
    static void undoOrNone() {
        SureHunters x = new SureHunters();
        Bench.refused(x, "a new object", () -> asNumber(x.undo()), 0);
        Bench.feed(x, "place a;place b;");
        x.net();
        Bench.refused(x, "behind net()", () -> asNumber(x.undo()), 0);
        x.toggle(0, 1);
        Bench.due("one", x.undo(), true);
        Bench.refused(x, "none", () -> asNumber(x.undo()), 0);
        x.toggle(0, 0);
        x.become(7);
        x.begin(0, 9, NONE, NONE, 0);
        Bench.refused(x, "calls that were refused", () -> asNumber(x.undo()), 0);
    }
}
