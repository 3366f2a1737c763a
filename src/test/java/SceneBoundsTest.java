/** The scene: each sentence that names a boundary has a test of its own. */
public final class SceneBoundsTest {
    private static final int NONE = Bench.NONE;
    private static final int MIN = Bench.MIN;
    private static final int MAX = Bench.MAX;
    private static final int[] NO_PLACES_OF_FIVE = {-2, 5, 9, 10, 32, 33, MIN, MAX};

    public static void main(String[] args) throws Exception {
        Bench.runSentences(SceneBoundsTest.class, 0, 27, 28, 29, 30, 31, 32, 33);
    }

    private static SureHunters scene(SureHunters x, int kind, int a, int b, int c, int runner) {
        x.begin(kind, a, b, c, runner);
        return x;
    }

    private static int asNumber(boolean done) {
        return done ? 1 : 0;
    }

    /** One hunter in a path of five goes onto the runner. */
    private static SureHunters caughtByHunters() {
        SureHunters x = scene(Bench.path(5), 0, 1, NONE, NONE, 2);
        x.hunt(2, NONE, NONE);
        return x;
    }

    // ---- the terms

    @Bench.Says(promise = 0, value = "ROUND by ROUND the HUNTERS' turn: each may go to a PLACE NEAR its own, or stay")
    static void huntersGoOrStay() {
        SureHunters x = scene(Bench.path(5), 0, 1, 1, 3, 4);
        Bench.due("all stay", x.hunt(1, 1, 3), true);
        x.undo();
        Bench.due("all go", x.hunt(0, 2, 2), true);
        x.undo();
        Bench.due("one goes too far", x.hunt(1, 1, 1), false);
        Bench.due("one too far for each", x.hunt(0, 0, 0), false);
        Bench.due("each to where another one stood", x.hunt(2, 2, 2), true);
        SureHunters y = scene(Bench.path(5), 0, 0, 3, NONE, 4);
        // 0 can come to 1 and 3 to 2, but 0 never to 2 or 3.
        Bench.due("one goes for two", y.hunt(2, 3, NONE), false);
        Bench.due("a couple", y.hunt(1, 2, NONE), true);
        SureHunters wide = scene(Bench.complete(9), 0, 0, 0, 0, 5);
        Bench.due("the last of all 165 rows", wide.hunt(8, 8, 8), true);
        wide.undo();
        Bench.due("the first of those that catch", wide.best(0) * 100 + wide.best(1) * 10 + wide.best(2), 5);
    }

    @Bench.Says(promise = 0, value = "KIND 1 (lazy): one at most leaves its PLACE")
    static void oneLazyHunterLeavesAtMost() {
        SureHunters x = scene(Bench.path(5), 1, 0, 2, 2, 4);
        Bench.due("none", x.hunt(2, 0, 2), true);
        x.undo();
        Bench.due("one", x.hunt(0, 2, 3), true);
        x.undo();
        Bench.due("the first of them", x.hunt(1, 2, 2), true);
        x.undo();
        Bench.due("two", x.hunt(0, 1, 3), false);
        Bench.due("two together", x.hunt(0, 3, 3), false);
        Bench.due("three", x.hunt(1, 1, 3), false);
        SureHunters y = scene(Bench.path(5), 1, 1, 2, NONE, 4);
        Bench.due("both by one, seen as one by two", y.hunt(2, 3, NONE), false);
        SureHunters z = scene(Bench.ring(3), 1, 0, 1, NONE, 2);
        Bench.due("both by one, seen as one alone", z.hunt(1, 2, NONE), true);
        SureHunters three = scene(Bench.path(5), 1, 0, 2, 4, 1);
        Bench.due("the second of three", three.hunt(0, 3, 4), true);
        three.undo();
        Bench.due("the third of three", three.hunt(0, 2, 3), true);
    }

    @Bench.Says(promise = 0, value = "then, if it isn't CAUGHT, the RUNNER's turn: it goes to a PLACE NEAR its own, or stays")
    static void theRunnerGoesOrStays() {
        SureHunters x = scene(Bench.path(5), 0, 0, NONE, NONE, 3);
        x.hunt(0, NONE, NONE);
        Bench.due("too far", x.run(1), false);
        Bench.due("one line", x.run(2), true);
        x.undo();
        Bench.due("the other side", x.run(4), true);
        x.undo();
        Bench.due("it stays", x.run(3), true);
        Bench.due("caught, it has no turn", caughtByHunters().run(3), false);
    }

    @Bench.Says(promise = 0, value = "or it goes on from a PLACE at which no HUNTER stands to one NEAR that.")
    static void theSwiftRunnerGoesOn() {
        SureHunters x = scene(Bench.path(9), 2, 0, NONE, NONE, 4);
        x.hunt(0, NONE, NONE);
        Bench.due("three lines", x.run(7), false);
        Bench.due("three lines back", x.run(1), false);
        Bench.due("two lines", x.run(6), true);
        x.undo();
        Bench.due("two lines back", x.run(2), true);
        SureHunters y = scene(Bench.path(5), 2, 1, NONE, NONE, 3);
        y.hunt(2, NONE, NONE);
        Bench.due("through a hunter", y.run(1), false);
        Bench.due("onto a hunter", y.run(2), true);
        Bench.due("it is caught", y.scene(5), 1);
        SureHunters z = scene(Bench.path(5), 2, 0, NONE, NONE, 2);
        z.hunt(0, NONE, NONE);
        Bench.due("on, onto a hunter", z.run(0), true);
        Bench.due("it is caught", z.scene(5), 1);
        SureHunters lazy = scene(Bench.path(5), 1, 0, NONE, NONE, 2);
        lazy.hunt(0, NONE, NONE);
        Bench.due("no other kind's runner goes on", lazy.run(4), false);
    }

    @Bench.Says(promise = 0, value = "At the RUNNER's turn: 0, if it is CAUGHT, else the greatest WORTH of what it can do (NONE, if one is NONE).")
    static void worthAtTheRunnersTurn() {
        Bench.due("caught", caughtByHunters().scene(6), 0);
        SureHunters x = scene(Bench.path(5), 0, 0, NONE, NONE, 2);
        x.hunt(1, NONE, NONE);
        Bench.due("the greatest", x.scene(6), 3);
        SureHunters y = scene(Bench.ring(5), 0, 0, NONE, NONE, 2);
        y.hunt(1, NONE, NONE);
        // It can go to 1 (caught), stay at 2 (caught next), or go to 3, where it gets away.
        Bench.due("one is NONE", y.scene(6), NONE);
    }

    @Bench.Says(promise = 0, value = "BEST of the HUNTERS: that of their rows by which WORTH (at the RUNNER's turn) is least, NONE being above all")
    static void bestPassesRowsThatAreNotSure() {
        SureHunters x = scene(Bench.ring(4), 0, 0, NONE, NONE, 1);
        Bench.due("1 catches, 0 and 3 are not sure", x.best(0), 1);
        // A ring of seven with a tail 6 - 7 - 8: from 3 only by 4 it comes ahead of the runner at the end.
        SureHunters y = scene(Bench.made(9, "ab bc cd de ef fg ga gh hi"), 0, 3, NONE, NONE, 8);
        Bench.due("2 and 3 are not sure, 4 is", y.best(0), 4);
        y.hunt(2, NONE, NONE);
        Bench.due("2 is not sure", y.scene(6), NONE);
        // 0 1 has it by one turn more, 0 0 by two, as it can stay.
        SureHunters z = scene(Bench.ring(4), 0, 0, 0, NONE, 2);
        Bench.due("the least", z.best(0) * 10 + z.best(1), 1);
        SureHunters last = scene(Bench.ring(5), 0, 0, 0, NONE, 2);
        Bench.due("the least, behind others", last.best(0) * 10 + last.best(1), 14);
    }

    @Bench.Says(promise = 0, value = "of like ones the first as a row. BEST of the RUNNER: the PLACE by which WORTH is greatest, NONE being above all; of like ones the least.")
    static void theFirstOfLikeOnes() {
        SureHunters x = scene(Bench.ring(5), 0, 3, NONE, NONE, 0);
        Bench.due("2, 3 and 4 are all NONE", x.best(0), 2);
        x.hunt(4, NONE, NONE);
        Bench.due("the runner: 1 is NONE", x.best(0), 1);
        SureHunters y = scene(Bench.ring(6), 0, 0, NONE, NONE, 3);
        y.hunt(0, NONE, NONE);
        Bench.due("the runner: 2, 3 and 4 are NONE", y.best(0), 2);
        SureHunters z = scene(Bench.path(5), 0, 0, NONE, NONE, 2);
        z.hunt(0, NONE, NONE);
        Bench.due("the runner: 2 and 3 are worth four", z.best(0), 2);
        SureHunters last = scene(Bench.path(3), 0, 0, NONE, NONE, 1);
        last.hunt(0, NONE, NONE);
        Bench.due("the runner: 2 is worth two, 1 but one", last.best(0), 2);
        SureHunters first = scene(Bench.path(3), 0, 2, NONE, NONE, 1);
        first.hunt(2, NONE, NONE);
        Bench.due("the runner: 0 is worth two, 1 but one", first.best(0), 0);
    }

    @Bench.Says(promise = 0, value = "SAFE (RUNNER's turn): PLACES that it can go to by which WORTH is NONE.")
    static void placesThatAreSafe() {
        SureHunters x = scene(Bench.ring(9), 0, 0, NONE, NONE, 5);
        x.hunt(0, NONE, NONE);
        Bench.due("all three", x.safe(), 16 | 32 | 64);
        SureHunters y = scene(Bench.ring(9), 0, 0, NONE, NONE, 2);
        y.hunt(1, NONE, NONE);
        Bench.due("one", y.safe(), 8);
        SureHunters z = scene(Bench.path(9), 0, 0, NONE, NONE, 8);
        z.hunt(0, NONE, NONE);
        Bench.due("none", z.safe(), 0);
    }

    @Bench.Says(promise = 0, value = "whose turn (behind one it is the other side's, also if it is CAUGHT)")
    static void whoseTurnWhenItIsCaught() {
        SureHunters x = caughtByHunters();
        Bench.due("caught by the hunters", x.scene(5), 1);
        Bench.due("the runner's turn", x.scene(3), 1);
        SureHunters y = scene(Bench.path(5), 0, 0, NONE, NONE, 2);
        y.hunt(1, NONE, NONE);
        Bench.due("the runner's turn", y.scene(3), 1);
        y.run(1);
        Bench.due("caught by itself", y.scene(5), 1);
        Bench.due("the hunters' turn", y.scene(3), 0);
        SureHunters z = scene(Bench.path(5), 0, 2, NONE, NONE, 2);
        Bench.due("caught at once: the hunters' turn", z.scene(3), 0);
    }

    @Bench.Says(promise = 0, value = "how many ROUNDS were begun (HUNTERS' turns done)")
    static void roundsThatWereBegun() {
        SureHunters x = scene(Bench.ring(5), 0, 0, NONE, NONE, 2);
        Bench.due("at the beginning", x.scene(4), 0);
        x.hunt(0, NONE, NONE);
        Bench.due("behind the hunters' turn", x.scene(4), 1);
        x.run(2);
        Bench.due("behind the runner's turn", x.scene(4), 1);
        x.hunt(0, NONE, NONE);
        Bench.due("behind the next", x.scene(4), 2);
        x.undo();
        Bench.due("taken back", x.scene(4), 1);
        x.begin(0, 0, NONE, NONE, 2);
        Bench.due("anew", x.scene(4), 0);
    }

    // ---- promise 27

    @Bench.Says(promise = 27, value = "A SCENE begins, HUNTERS' turn: how many HUNTERS")
    static void beginTellsHowManyHunters() {
        SureHunters x = Bench.path(5);
        Bench.due("one", x.begin(0, 4, NONE, NONE, 0), 1);
        Bench.due("two", x.begin(1, 4, 0, NONE, 2), 2);
        Bench.due("three", x.begin(2, 4, 0, 4, 3), 3);
        Bench.due("rising", Bench.row(x), 44);
        x.hunt(4, 0, 4);
        Bench.due("another one begins in its midst", x.begin(0, 1, NONE, NONE, 3), 1);
        Bench.due("the hunters' turn", x.scene(3), 0);
        Bench.due("one hunter", x.scene(1), 1);
    }

    @Bench.Says(promise = 27, value = "NONE, doing nothing, if one can't be")
    static void beginOfWhatCannotBe() {
        SureHunters x = scene(Bench.path(5), 1, 0, 1, NONE, 3);
        for (int place : NO_PLACES_OF_FIVE) {
            Bench.due("the first at " + place, x.begin(0, place, NONE, NONE, 0), NONE);
            Bench.due("the second at " + place, x.begin(0, 0, place, NONE, 0), NONE);
            Bench.due("the third at " + place, x.begin(0, 0, 0, place, 0), NONE);
            Bench.refused(x, "the runner at " + place, () -> x.begin(0, 0, NONE, NONE, place), NONE);
        }
        Bench.refused(x, "no runner", () -> x.begin(0, 0, NONE, NONE, NONE), NONE);
        for (int kind : new int[] {-1, 3, MIN, MAX}) {
            Bench.due("kind " + kind, x.begin(kind, 0, NONE, NONE, 0), NONE);
        }
        Bench.due("acts", x.about(7), 1);
        Bench.due("the scene stays", Bench.row(x), 1);
        SureHunters empty = new SureHunters();
        Bench.refused(empty, "without places", () -> empty.begin(0, 0, NONE, NONE, 0), NONE);
    }

    @Bench.Says(promise = 27, value = "b, c as in sure()")
    static void beginWithNoneBehindAlone() {
        SureHunters x = scene(Bench.path(5), 2, 3, NONE, NONE, 0);
        Bench.refused(x, "NONE between", () -> x.begin(0, 0, NONE, 1, 2), NONE);
        Bench.refused(x, "NONE ahead", () -> x.begin(0, NONE, 0, 1, 2), NONE);
        Bench.refused(x, "NONE ahead of one", () -> x.begin(0, NONE, 0, NONE, 2), NONE);
        Bench.refused(x, "no hunters", () -> x.begin(0, NONE, NONE, NONE, 2), NONE);
    }

    @Bench.Says(promise = 27, value = "CAUGHT at once may be")
    static void beginCaught() {
        SureHunters x = Bench.path(5);
        Bench.due("begin", x.begin(0, 3, 1, NONE, 3), 2);
        Bench.due("caught", x.scene(5), 1);
        Bench.due("worth", x.scene(6), 0);
        Bench.due("rounds", x.scene(4), 0);
    }

    @Bench.Says(promise = 27, value = "(An ACT.)")
    static void beginIsAnAct() {
        SureHunters x = Bench.path(5);
        x.begin(0, 0, NONE, NONE, 1);
        x.begin(2, 1, 2, NONE, 4);
        Bench.due("two acts", x.about(7), 2);
        x.undo();
        Bench.due("the one ahead", Bench.row(x) * 10 + x.scene(2), 1);
        x.undo();
        Bench.due("none", x.scene(2), -2);
    }

    // ---- promise 28

    @Bench.Says(promise = 28, value = "-2 without a SCENE")
    static void noScene() {
        SureHunters x = Bench.path(5);
        for (int what = -1; what <= 13; what++) {
            Bench.due("scene(" + what + ")", x.scene(what), -2);
        }
        x.begin(0, 0, NONE, NONE, 1);
        x.toggle(0, 4);
        for (int what = 0; what <= 12; what++) {
            Bench.due("behind a line: scene(" + what + ")", x.scene(what), -2);
        }
    }

    @Bench.Says(promise = 28, value = "there is none such HUNTER")
    static void noSuchHunter() {
        SureHunters x = scene(Bench.path(5), 0, 0, NONE, NONE, 4);
        Bench.due("the first", x.scene(10), 0);
        Bench.due("no second of one", x.scene(11), -2);
        Bench.due("no third of one", x.scene(12), -2);
        x.begin(0, 0, 1, NONE, 4);
        Bench.due("the second", x.scene(11), 1);
        Bench.due("no third of two", x.scene(12), -2);
        x.begin(0, 0, 1, 2, 4);
        Bench.due("the third", x.scene(12), 2);
        Bench.due("no fourth", x.scene(13), -2);
    }

    @Bench.Says(promise = 28, value = "or for another what.")
    static void sceneOfAnotherWhat() {
        SureHunters x = scene(Bench.path(5), 0, 1, 2, 3, 4);
        for (int what : new int[] {-1, -2, 7, 8, 9, 13, 14, 20, MIN, MIN + 9, MIN + 10, MAX}) {
            Bench.due("scene(" + what + ")", x.scene(what), -2);
        }
    }

    @Bench.Says(promise = 28, value = "5: 1 if it is CAUGHT, else 0, 6: WORTH")
    static void caughtAndWorth() {
        SureHunters x = scene(Bench.ring(4), 0, 0, NONE, NONE, 2);
        Bench.due("not caught", x.scene(5), 0);
        Bench.due("NONE is a worth, not -2", x.scene(6), NONE);
        x.begin(0, 0, NONE, NONE, 0);
        Bench.due("caught", x.scene(5), 1);
        Bench.due("worth", x.scene(6), 0);
    }

    // ---- promise 29

    @Bench.Says(promise = 29, value = "the RUNNER: the PLACE (i 0)")
    static void bestOfTheRunner() {
        SureHunters x = scene(Bench.path(5), 0, 0, 0, 0, 2);
        x.hunt(0, 0, 0);
        Bench.due("i 0", x.best(0), 2);
        for (int i : new int[] {1, 2, 3, -1, MIN, MAX}) {
            Bench.due("best(" + i + ")", x.best(i), NONE);
        }
    }

    @Bench.Says(promise = 29, value = "NONE if there is none such")
    static void bestOutOfBounds() {
        SureHunters x = scene(Bench.path(5), 0, 0, NONE, NONE, 2);
        Bench.due("the first", x.best(0), 1);
        Bench.due("no second of one", x.best(1), NONE);
        x.begin(0, 0, 4, NONE, 2);
        Bench.due("the second", x.best(1), 3);
        for (int i : new int[] {2, 3, -1, -2, MIN, MAX}) {
            Bench.due("best(" + i + ")", x.best(i), NONE);
        }
    }

    @Bench.Says(promise = 29, value = "it is CAUGHT, without a SCENE.")
    static void bestWhenItIsCaught() {
        Bench.due("without a scene", Bench.path(5).best(0), NONE);
        Bench.due("without places", new SureHunters().best(0), NONE);
        Bench.due("caught by the hunters", caughtByHunters().best(0), NONE);
        Bench.due("caught at once", scene(Bench.path(5), 0, 2, NONE, NONE, 2).best(0), NONE);
    }

    // ---- promise 30

    @Bench.Says(promise = 30, value = "NONE if it isn't the RUNNER's turn")
    static void safeAtTheHuntersTurn() {
        SureHunters x = scene(Bench.ring(5), 0, 0, NONE, NONE, 2);
        Bench.due("at the beginning", x.safe(), NONE);
        x.hunt(0, NONE, NONE);
        Bench.due("at the runner's turn", x.safe(), 4 | 8);
        x.run(2);
        Bench.due("behind it", x.safe(), NONE);
    }

    @Bench.Says(promise = 30, value = "it is CAUGHT, or without a SCENE.")
    static void safeWhenItIsCaught() {
        Bench.due("without a scene", Bench.ring(5).safe(), NONE);
        Bench.due("without places", new SureHunters().safe(), NONE);
        SureHunters x = scene(Bench.ring(5), 0, 1, NONE, NONE, 2);
        x.hunt(2, NONE, NONE);
        Bench.due("caught, the runner's turn", x.safe(), NONE);
    }

    // ---- promise 31

    @Bench.Says(promise = 31, value = "(as many as there are, NONE behind; in any order)")
    static void huntAsManyAsThereAre() {
        SureHunters x = scene(Bench.path(5), 0, 0, 2, NONE, 4);
        Bench.refused(x, "one", () -> asNumber(x.hunt(0, NONE, NONE)), 0);
        Bench.refused(x, "three", () -> asNumber(x.hunt(0, 2, 2)), 0);
        Bench.refused(x, "NONE ahead", () -> asNumber(x.hunt(NONE, 0, 2)), 0);
        Bench.refused(x, "NONE between", () -> asNumber(x.hunt(0, NONE, 2)), 0);
        Bench.refused(x, "none", () -> asNumber(x.hunt(NONE, NONE, NONE)), 0);
        Bench.due("falling", x.hunt(3, 1, NONE), true);
        Bench.due("rising then", Bench.row(x), 13);
        SureHunters y = scene(Bench.path(5), 0, 0, 2, 4, 3);
        Bench.due("three in another order", y.hunt(4, 1, 1), true);
        Bench.due("rising then", Bench.row(y), 114);
        SureHunters z = scene(Bench.path(5), 0, 2, NONE, NONE, 4);
        Bench.due("two for one", z.hunt(2, 3, NONE), false);
        Bench.due("one for one", z.hunt(3, NONE, NONE), true);
    }

    @Bench.Says(promise = 31, value = "false, doing nothing, if they can't")
    static void huntWhereTheyCannot() {
        SureHunters x = scene(Bench.path(5), 0, 2, NONE, NONE, 4);
        Bench.refused(x, "too far", () -> asNumber(x.hunt(0, NONE, NONE)), 0);
        for (int place : NO_PLACES_OF_FIVE) {
            Bench.due("to " + place, x.hunt(place, NONE, NONE), false);
        }
        Bench.due("acts", x.about(7), 1);
        Bench.due("the row stays", Bench.row(x), 2);
        Bench.due("it is still their turn", x.hunt(3, NONE, NONE), true);
    }

    @Bench.Says(promise = 31, value = "it isn't their turn")
    static void huntAtTheRunnersTurn() {
        SureHunters x = scene(Bench.path(5), 0, 0, NONE, NONE, 4);
        x.hunt(0, NONE, NONE);
        Bench.refused(x, "hunt", () -> asNumber(x.hunt(1, NONE, NONE)), 0);
        x.run(4);
        Bench.due("behind the runner's", x.hunt(1, NONE, NONE), true);
    }

    @Bench.Says(promise = 31, value = "it is CAUGHT, or without a SCENE.")
    static void huntWhenItIsCaught() {
        SureHunters x = scene(Bench.path(5), 0, 2, NONE, NONE, 2);
        Bench.refused(x, "caught at once", () -> asNumber(x.hunt(2, NONE, NONE)), 0);
        SureHunters y = scene(Bench.path(5), 0, 0, NONE, NONE, 2);
        y.hunt(1, NONE, NONE);
        y.run(1);
        Bench.refused(y, "caught by itself", () -> asNumber(y.hunt(1, NONE, NONE)), 0);
        SureHunters z = Bench.path(5);
        Bench.refused(z, "without a scene", () -> asNumber(z.hunt(0, NONE, NONE)), 0);
        SureHunters empty = new SureHunters();
        Bench.refused(empty, "without places", () -> asNumber(empty.hunt(0, NONE, NONE)), 0);
    }

    @Bench.Says(promise = 31, value = "(An ACT.)")
    static void huntIsAnAct() {
        SureHunters x = scene(Bench.path(5), 0, 0, NONE, NONE, 4);
        x.hunt(1, NONE, NONE);
        Bench.due("acts", x.about(7), 2);
        Bench.due("undo()", x.undo(), true);
        Bench.due("the row", Bench.row(x), 0);
        Bench.due("the turn", x.scene(3), 0);
    }

    // ---- promise 32

    @Bench.Says(promise = 32, value = "The RUNNER goes to a PLACE: likewise.")
    static void runLikewise() {
        SureHunters x = Bench.path(5);
        Bench.refused(x, "without a scene", () -> asNumber(x.run(0)), 0);
        x.begin(0, 0, NONE, NONE, 3);
        Bench.refused(x, "not its turn", () -> asNumber(x.run(3)), 0);
        x.hunt(1, NONE, NONE);
        Bench.refused(x, "too far", () -> asNumber(x.run(1)), 0);
        for (int place : new int[] {-1, -2, 5, 9, 32, 34, 35, 36, 64 + 3, MIN, MAX}) {
            Bench.due("run(" + place + ")", x.run(place), false);
        }
        Bench.due("acts", x.about(7), 2);
        Bench.due("it can", x.run(2), true);
        Bench.due("an act", x.about(7), 3);
        x.hunt(2, NONE, NONE);
        Bench.refused(x, "caught", () -> asNumber(x.run(2)), 0);
        x.undo();
        x.undo();
        Bench.due("undone", x.scene(2) * 10 + x.scene(3), 31);
        SureHunters empty = new SureHunters();
        Bench.refused(empty, "without places", () -> asNumber(empty.run(0)), 0);
    }

    // ---- promise 33

    @Bench.Says(promise = 33, value = "So many turns (1 .. 100), each the BEST: how many were done")
    static void playFromOneToAHundred() {
        SureHunters x = scene(Bench.ring(5), 0, 0, NONE, NONE, 2);
        Bench.due("one", x.play(1), 1);
        Bench.due("the runner's turn", x.scene(3), 1);
        Bench.due("a hundred", x.play(100), 100);
        Bench.due("rounds", x.scene(4), 51);
        Bench.due("the runner's turn", x.scene(3), 1);
    }

    @Bench.Says(promise = 33, value = "(it ends, when it is CAUGHT)")
    static void playEndsWhenItIsCaught() {
        // The hunter comes from 0 to the end 4 by four turns, the runner has three between them.
        SureHunters x = scene(Bench.path(5), 0, 0, NONE, NONE, 4);
        Bench.due("a hundred", x.play(100), 7);
        Bench.due("caught", x.scene(5), 1);
        x.undo();
        Bench.due("as many as it takes", x.play(7), 7);
        x.undo();
        Bench.due("one less", x.play(6), 6);
        Bench.due("not caught", x.scene(5), 0);
        Bench.due("the last one", x.play(100), 1);
    }

    @Bench.Says(promise = 33, value = "NONE, doing nothing, for another n")
    static void playAnotherNumber() {
        SureHunters x = scene(Bench.ring(5), 0, 0, NONE, NONE, 2);
        for (int n : new int[] {0, -1, 101, 102, MIN, MAX}) {
            Bench.refused(x, "play(" + n + ")", () -> x.play(n), NONE);
        }
    }

    @Bench.Says(promise = 33, value = "without a SCENE, or if it is CAUGHT.")
    static void playWhenItIsCaught() {
        SureHunters x = Bench.path(5);
        Bench.refused(x, "without a scene", () -> x.play(1), NONE);
        x.begin(0, 2, NONE, NONE, 2);
        Bench.refused(x, "caught at once", () -> x.play(1), NONE);
        SureHunters y = caughtByHunters();
        Bench.refused(y, "caught by the hunters", () -> y.play(100), NONE);
        SureHunters empty = new SureHunters();
        Bench.refused(empty, "without places", () -> empty.play(1), NONE);
    }

    @Bench.Says(promise = 33, value = "(One ACT.)")
    static void playIsOneAct() {
        SureHunters x = scene(Bench.ring(5), 0, 0, NONE, NONE, 2);
        x.play(100);
        Bench.due("acts", x.about(7), 2);
        x.undo();
        Bench.due("rounds", x.scene(4), 0);
        Bench.due("the row", Bench.row(x), 0);
        Bench.due("the runner", x.scene(2), 2);
        Bench.due("acts", x.about(7), 1);
    }
}
