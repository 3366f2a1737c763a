/** Games of a net: each sentence that names a boundary has a test of its own. */
public final class GameBoundsTest {
    private static final int NONE = Bench.NONE;
    private static final int MIN = Bench.MIN;
    private static final int MAX = Bench.MAX;
    private static final int[] NO_KINDS = {-1, -2, 3, 4, MIN, MAX};
    private static final int[] NO_HUNTERS = {0, -1, 4, 5, MIN, MAX};

    public static void main(String[] args) throws Exception {
        Bench.runSentences(GameBoundsTest.class, 0, 13, 14, 15, 16, 17, 18, 19, 20, 21, 22);
    }

    /** A ring of three with a place on each side: one plain hunter catches there, but no swift runner. */
    private static SureHunters sun() {
        return Bench.made(6, "ab bc ca da db eb ec fc fa");
    }

    // ---- the terms

    @Bench.Says(promise = 0, value = "A GAME is of a KIND, with 1 .. 3 HUNTERS.")
    static void oneToThreeHunters() {
        SureHunters x = Bench.path(3);
        Bench.due("none", x.time(0, 0), NONE);
        Bench.due("one", x.time(0, 1), 1);
        Bench.due("three", x.time(0, 3), 0);
        Bench.due("four", x.time(0, 4), NONE);
    }

    @Bench.Says(promise = 0, value = "they stand as a row of PLACES, not falling (several may stand at one)")
    static void severalAtOnePlace() {
        SureHunters x = Bench.alone(3);
        Bench.due("a row with one place twice", x.sure(0, 1, 1, NONE), 2);
        Bench.due("thrice", x.sure(0, 2, 2, 2), 4);
        Bench.due("such rows count: 00 01 02 11 12 22", x.refusals(0, 2), 9);
        Bench.due("on nine places there are 165 rows of three", Bench.alone(9).refusals(0, 3),
                9 * 8 + 72 * 7 + 84 * 6);
    }

    @Bench.Says(promise = 0, value = "It is CAUGHT, when a HUNTER stands where it stands.")
    static void caughtWhereAHunterStands() {
        SureHunters x = Bench.alone(3);
        Bench.due("one stands there", x.sure(0, 0, 0, 2), 5);
        Bench.due("all are taken", x.time(0, 3), 0);
        Bench.due("one place", Bench.alone(1).time(1, 1), 0);
    }

    @Bench.Says(promise = 0, value = "KIND 1 (lazy): one at most leaves its PLACE")
    static void lazyHuntersCatchLess() {
        Bench.due("plain", Bench.rook().fewest(0), 2);
        Bench.due("lazy", Bench.rook().fewest(1), 3);
        // From both ends of a path of six: the plain ones close in together, the lazy ones by turns.
        Bench.due("plain, from both ends", worth(0, 0, 5, 2), 2);
        Bench.due("lazy, from both ends", worth(1, 0, 5, 2), 3);
    }

    private static int worth(int kind, int a, int b, int runner) {
        SureHunters x = Bench.path(6);
        x.begin(kind, a, b, NONE, runner);
        return x.scene(6);
    }

    @Bench.Says(promise = 0, value = "KIND 2 (swift): or it goes on from a PLACE at which no HUNTER stands to one NEAR that.")
    static void swiftRunnersGetAway() {
        Bench.due("plain", sun().fewest(0), 1);
        Bench.due("swift", sun().fewest(2), 2);
        Bench.due("swift, but not by a hunter", Bench.path(9).fewest(2), 1);
        Bench.due("swift in a ring", Bench.ring(9).fewest(2), 2);
    }

    @Bench.Says(promise = 0, value = "WORTH at the HUNTERS' turn: 0, if it is CAUGHT")
    static void worthOfOneThatIsCaught() {
        SureHunters x = Bench.ring(5);
        x.begin(0, 2, NONE, NONE, 2);
        Bench.due("caught", x.scene(6), 0);
        Bench.due("sure of it", x.sure(0, 2, NONE, NONE) & 4, 4);
        Bench.due("alone in another part", Bench.alone(2).sure(0, 1, NONE, NONE), 2);
    }

    @Bench.Says(promise = 0, value = "NONE, if they can't be sure.")
    static void worthOfOneThatGetsAway() {
        SureHunters x = Bench.ring(4);
        x.begin(0, 0, NONE, NONE, 2);
        Bench.due("the far side of a ring of four", x.scene(6), NONE);
        x.begin(0, 0, NONE, NONE, 1);
        Bench.due("beside", x.scene(6), 1);
        x.toggle(0, 2);
        x.begin(0, 3, NONE, NONE, 1);
        Bench.due("the far side, with a line across", x.scene(6), 2);
    }

    @Bench.Says(promise = 0, value = "START of so many HUNTERS: the row by which the greatest WORTH of all PLACES of the RUNNER is least (NONE above all)")
    static void startPassesRowsThatAreNotSure() {
        // 0 stands alone: the row 0 0 never holds 1 and 2.
        SureHunters x = Bench.made(3, "bc");
        Bench.due("start", x.start(0, 2, 0) * 10 + x.start(0, 2, 1), 1);
        Bench.due("time", x.time(0, 2), 1);
        SureHunters y = Bench.made(4, "cd");
        Bench.due("start of three", y.start(0, 3, 0) * 100 + y.start(0, 3, 1) * 10 + y.start(0, 3, 2), 12);
        Bench.due("time of three", y.time(0, 3), 1);
    }

    @Bench.Says(promise = 0, value = "of like ones the first as a row; TIME: that WORTH.")
    static void theFirstOfLikeStarts() {
        SureHunters x = Bench.path(4);
        Bench.due("1 and 2 are like ones", x.start(0, 1, 0), 1);
        Bench.due("time", x.time(0, 1), 2);
        Bench.due("all are like ones", Bench.complete(9).start(0, 1, 0), 0);
        Bench.due("time", Bench.complete(9).time(0, 1), 1);
    }

    @Bench.Says(promise = 0, value = "They SURELY catch, if it isn't NONE. FEWEST: of a KIND how many do so (1 .. 3).")
    static void fewestFromOneToThree() {
        for (int kind = 0; kind < 3; kind++) {
            Bench.due("one place", Bench.alone(1).fewest(kind), 1);
            Bench.due("a ring", Bench.ring(9).fewest(kind), 2);
            Bench.due("three places alone", Bench.alone(3).fewest(kind), 3);
            Bench.due("four places alone", Bench.alone(4).fewest(kind), NONE);
        }
    }

    @Bench.Says(promise = 0, value = "couples of a row and a PLACE of the RUNNER whose WORTH (HUNTERS' turn) is NONE, numbered by rows (as in a dictionary), then PLACES.")
    static void refusalsInTheirOrder() {
        SureHunters x = Bench.alone(3);
        int[] due = {1, 2, 12, 21, 110, 112, 120, 220, 221};
        for (int i = 0; i < due.length; i++) {
            int got = x.refusal(0, 2, i, 1) * 100 + x.refusal(0, 2, i, 2) * 10 + x.refusal(0, 2, i, 0);
            Bench.due("refusal " + i, got, due[i]);
        }
        Bench.due("how many", x.refusals(0, 2), due.length);
    }

    @Bench.Says(promise = 0, value = "how many HUNTERS' turns till it is CAUGHT (0 if at once), 100 at most.")
    static void trialsFromNoneToAHundred() {
        // Seed 0 becomes 12345, whose upper half is 0: the place 0, where START is.
        Bench.due("at once", Bench.alone(2).trial(0, 1, 0), 0);
        Bench.due("by one turn", Bench.complete(4).trial(0, 1, 1), 1);
        Bench.due("by the hundredth", Bench.ring(9).trial(0, 1, 17032), 100);
        Bench.due("by the one behind it, were it done", Bench.ring(9).trial(0, 1, 13585), -2);
    }

    @Bench.Says(promise = 0, value = "the seed becomes seed * 1103515245 + 12345 (an int, wrapping), (seed >>> 16) % how many there are tells which")
    static void seedsWrap() {
        // On places alone, START 0, it is caught (0) if the first place drawn is 0, never (-2) if it is another.
        SureHunters three = Bench.alone(3);
        Bench.due("7 becomes 3429651764: 52332 % 3 is 0", three.trial(0, 1, 7), 0);
        Bench.due("10 becomes 2445230203: 37311 % 3 is 0", three.trial(0, 1, 10), 0);
        Bench.due("-1 becomes 3191464396: 48697 % 3 is 1", three.trial(0, 1, -1), -2);
        Bench.due("MIN becomes 2147495993: 32768 % 3 is 2", three.trial(0, 1, MIN), -2);
        Bench.due("MIN: 32768 % 4 is 0", Bench.alone(4).trial(0, 1, MIN), 0);
        Bench.due("MAX becomes 1043980748: 15929 % 4 is 1", Bench.alone(4).trial(0, 1, MAX), -2);
        Bench.due("3 becomes 3310558080: 50515 % 5 is 0", Bench.alone(5).trial(0, 1, 3), 0);
        Bench.due("2 becomes 2207042835: 33676 % 5 is 1", Bench.alone(5).trial(0, 1, 2), -2);
    }

    // ---- promise 13

    @Bench.Says(promise = 13, value = "NONE if three don't (without PLACES, too)")
    static void fewestWhereThreeDoNot() {
        Bench.due("three places alone", Bench.alone(3).fewest(0), 3);
        Bench.due("four places alone", Bench.alone(4).fewest(0), NONE);
        Bench.due("three rings of three", Bench.made(9, "ab bc ca de ef fd gh hi ig").fewest(0), 3);
        Bench.due("two rings of four", Bench.made(9, "ab bc cd da ef fg gh he").fewest(0), NONE);
        for (int kind = 0; kind < 3; kind++) {
            Bench.due("without places", new SureHunters().fewest(kind), NONE);
        }
    }

    @Bench.Says(promise = 13, value = "or there is no such KIND.")
    static void fewestOfNoKind() {
        SureHunters x = Bench.path(3);
        for (int kind : NO_KINDS) {
            Bench.due("fewest(" + kind + ")", x.fewest(kind), NONE);
        }
        Bench.due("the last kind", x.fewest(2), 1);
    }

    // ---- promise 14

    @Bench.Says(promise = 14, value = "NONE if they don't SURELY catch")
    static void timeOfThoseWhoDoNot() {
        Bench.due("one in a ring of four", Bench.ring(4).time(0, 1), NONE);
        Bench.due("two in a ring of four", Bench.ring(4).time(0, 2), 1);
        Bench.due("two of three places alone", Bench.alone(3).time(0, 2), NONE);
        Bench.due("three of four places alone", Bench.alone(4).time(0, 3), NONE);
        Bench.due("two lazy ones", Bench.rook().time(1, 2), NONE);
        Bench.due("one, the runner swift", sun().time(2, 1), NONE);
    }

    @Bench.Says(promise = 14, value = "without PLACES, or one can't be.")
    static void timeOfWhatCannotBe() {
        SureHunters empty = new SureHunters();
        SureHunters x = Bench.path(3);
        for (int i = 1; i <= 3; i++) {
            Bench.due("without places", empty.time(i - 1, i), NONE);
            for (int kind : NO_KINDS) {
                Bench.due("kind " + kind, x.time(kind, i), NONE);
            }
        }
        for (int hunters : NO_HUNTERS) {
            Bench.due(hunters + " hunters", x.time(0, hunters), NONE);
            Bench.due(hunters + " hunters, swift", x.time(2, hunters), NONE);
        }
    }

    // ---- promise 15

    @Bench.Says(promise = 15, value = "NONE if there is none such, without PLACES, or one can't be.")
    static void startOfWhatIsNot() {
        SureHunters x = Bench.path(5);
        for (int hunters = 1; hunters <= 3; hunters++) {
            Bench.due("the last", x.start(0, hunters, hunters - 1), hunters == 1 ? 2 : 3);
            for (int i : new int[] {hunters, hunters + 1, 3, 9, -1, -2, MIN, MAX}) {
                Bench.due("start(0, " + hunters + ", " + i + ")", x.start(0, hunters, i), NONE);
            }
            Bench.due("without places", new SureHunters().start(0, hunters, 0), NONE);
        }
        for (int kind : NO_KINDS) {
            Bench.due("kind " + kind, x.start(kind, 1, 0), NONE);
        }
        for (int hunters : NO_HUNTERS) {
            Bench.due(hunters + " hunters", x.start(0, hunters, 0), NONE);
        }
    }

    @Bench.Says(promise = 15, value = "(START is told, if TIME is NONE, too: the first row.)")
    static void startIsToldAllTheSame() {
        Bench.due("one in a ring", Bench.ring(9).start(0, 1, 0), 0);
        SureHunters x = Bench.alone(9);
        for (int i = 0; i < 3; i++) {
            Bench.due("three of nine places alone", x.start(1, 3, i), 0);
        }
        SureHunters y = Bench.made(4, "bc cd");
        Bench.due("a place alone and a path", y.start(0, 1, 0), 0);
        Bench.due("its time", y.time(0, 1), NONE);
    }

    // ---- promise 16

    @Bench.Says(promise = 16, value = "(in any order; NONE: none, behind them alone)")
    static void rowsInAnyOrder() {
        SureHunters x = Bench.made(5, "ab cd");
        int[][] orders = {{0, 2, 4}, {0, 4, 2}, {2, 0, 4}, {2, 4, 0}, {4, 0, 2}, {4, 2, 0}};
        for (int[] row : orders) {
            Bench.due("in any order", x.sure(0, row[0], row[1], row[2]), 31);
        }
        Bench.due("two, falling", x.sure(0, 4, 2, NONE), 4 | 8 | 16);
        Bench.due("one", x.sure(0, 4, NONE, NONE), 16);
        Bench.due("NONE between", x.sure(0, 0, NONE, 2), NONE);
        Bench.due("NONE ahead of one", x.sure(0, NONE, 0, NONE), NONE);
        Bench.due("NONE ahead of two", x.sure(0, NONE, 0, 2), NONE);
        Bench.due("NONE twice ahead", x.sure(0, NONE, NONE, 0), NONE);
        Bench.due("none at all", x.sure(0, NONE, NONE, NONE), NONE);
    }

    @Bench.Says(promise = 16, value = "as bits; NONE if one can't be.")
    static void sureOfWhatCannotBe() {
        SureHunters x = Bench.path(5);
        Bench.due("the last place", x.sure(0, 4, NONE, NONE), 31);
        for (int place : new int[] {-2, 5, 9, 10, 32, MIN, MAX}) {
            Bench.due("the first at " + place, x.sure(0, place, NONE, NONE), NONE);
            Bench.due("the second at " + place, x.sure(0, 0, place, NONE), NONE);
            Bench.due("the third at " + place, x.sure(0, 0, 0, place), NONE);
            Bench.due("the second and no third", x.sure(0, 0, place, 0), NONE);
        }
        for (int kind : NO_KINDS) {
            Bench.due("kind " + kind, x.sure(kind, 0, NONE, NONE), NONE);
        }
        Bench.due("without places", new SureHunters().sure(0, 0, NONE, NONE), NONE);
        Bench.due("all nine", Bench.complete(9).sure(0, 8, NONE, NONE), 511);
        Bench.due("behind nine", Bench.complete(9).sure(0, 9, NONE, NONE), NONE);
        Bench.due("two, the second behind nine", Bench.complete(9).sure(0, 0, 9, NONE), NONE);
        Bench.due("three, the third behind nine", Bench.complete(9).sure(0, 0, 0, 9), NONE);
    }

    // ---- promise 17

    @Bench.Says(promise = 17, value = "How many REFUSALS there are; NONE without PLACES, or if one can't be.")
    static void refusalsOfWhatCannotBe() {
        SureHunters x = Bench.ring(4);
        Bench.due("four of sixteen", x.refusals(0, 1), 4);
        Bench.due("none", x.refusals(0, 2), 0);
        Bench.due("none of one place", Bench.alone(1).refusals(2, 3), 0);
        for (int kind : NO_KINDS) {
            Bench.due("kind " + kind, x.refusals(kind, 1), NONE);
        }
        for (int hunters : NO_HUNTERS) {
            Bench.due(hunters + " hunters", x.refusals(0, hunters), NONE);
        }
        for (int hunters = 1; hunters <= 3; hunters++) {
            Bench.due("without places", new SureHunters().refusals(0, hunters), NONE);
        }
    }

    // ---- promise 18

    @Bench.Says(promise = 18, value = "Of the i-th what 0: the RUNNER's PLACE, 1 .. 3: the HUNTERS' (rising).")
    static void refusalsFromTheFirstToTheLast() {
        SureHunters x = Bench.alone(4);
        int last = x.refusals(0, 3) - 1;
        // 4 rows of one place (3 others), 12 of two (2 others), 4 of three (1 other).
        Bench.due("the last", last, 4 * 3 + 12 * 2 + 4 - 1);
        Bench.due("runner of the first", x.refusal(0, 3, 0, 0), 1);
        Bench.due("runner of the last", x.refusal(0, 3, last, 0), 2);
        for (int what = 1; what <= 3; what++) {
            Bench.due("hunter of the first", x.refusal(0, 3, 0, what), 0);
            Bench.due("hunter of the last", x.refusal(0, 3, last, what), 3);
        }
        // 0 0 0: 1 2 3; 0 0 1: 2 3; 0 0 2: 1 3; 0 0 3: 1 2; 0 1 1: 2 3; 0 1 2: 3, the twelfth.
        Bench.due("rising", x.refusal(0, 3, 11, 1) * 100 + x.refusal(0, 3, 11, 2) * 10 + x.refusal(0, 3, 11, 3), 12);
        Bench.due("its runner", x.refusal(0, 3, 11, 0), 3);
    }

    @Bench.Says(promise = 18, value = "NONE if there is none such")
    static void refusalsThatAreNot() {
        SureHunters x = Bench.ring(4);
        Bench.due("the last", x.refusal(0, 1, 3, 0), 1);
        for (int i : new int[] {4, 5, 100, -1, -2, MIN, MAX}) {
            for (int what = 0; what <= 3; what++) {
                Bench.due("refusal " + i + ", " + what, x.refusal(0, 1, i, what), NONE);
            }
        }
        Bench.due("where there are none", x.refusal(0, 2, 0, 0), NONE);
        Bench.due("no second hunter", x.refusal(0, 1, 0, 2), NONE);
        Bench.due("no third hunter", x.refusal(0, 1, 0, 3), NONE);
        Bench.due("no third of two", Bench.alone(3).refusal(0, 2, 0, 3), NONE);
    }

    @Bench.Says(promise = 18, value = "for another what, or likewise.")
    static void refusalsOfAnotherWhat() {
        SureHunters x = Bench.alone(5);
        for (int what : new int[] {-1, -2, 4, 5, 10, MIN, MIN + 1, MAX}) {
            Bench.due("what " + what, x.refusal(0, 3, 0, what), NONE);
        }
        for (int kind : NO_KINDS) {
            Bench.due("kind " + kind, x.refusal(kind, 1, 0, 0), NONE);
        }
        for (int hunters : NO_HUNTERS) {
            Bench.due(hunters + " hunters", x.refusal(0, hunters, 0, 0), NONE);
        }
        Bench.due("without places", new SureHunters().refusal(0, 1, 0, 0), NONE);
    }

    // ---- promise 19

    @Bench.Says(promise = 19, value = "-2: it isn't CAUGHT by 100")
    static void trialsThatEndUncaught() {
        Bench.due("in another part", Bench.alone(2).trial(0, 1, 3), -2);
        Bench.due("in another part, three", Bench.alone(9).trial(1, 3, 1), -2);
        Bench.due("a hundred are enough", Bench.ring(9).trial(0, 1, -7253), 100);
        Bench.due("a hundred are not", Bench.ring(9).trial(0, 1, 38069), -2);
    }

    @Bench.Says(promise = 19, value = "NONE without PLACES, or if one can't be.")
    static void trialsOfWhatCannotBe() {
        SureHunters x = Bench.path(3);
        for (int kind : NO_KINDS) {
            Bench.due("kind " + kind, x.trial(kind, 1, 1), NONE);
        }
        for (int hunters : NO_HUNTERS) {
            Bench.due(hunters + " hunters", x.trial(0, hunters, 1), NONE);
        }
        for (int hunters = 1; hunters <= 3; hunters++) {
            Bench.due("without places", new SureHunters().trial(0, hunters, 0), NONE);
        }
    }

    // ---- promise 20

    @Bench.Says(promise = 20, value = "The first couple of PLACES (p below q, by p, then q)")
    static void theFirstCoupleThatHelps() {
        Bench.due("0 and 1 go apart", Bench.ring(4).helps(0, 1), 1);
        // The ring 1 .. 5 with 0 at its place 2: no line at 0 mends it, the one between 1 and 2 does.
        Bench.due("1 and 2", Bench.made(6, "bc cd de ef fb ac").helps(0, 1), 16 + 2);
        Bench.due("0 and 2, as 0 and 1 are a path already", Bench.made(4, "ab cd").helps(0, 1), 2);
        // Four parts: by no line they become two.
        Bench.due("none", Bench.made(9, "ab bc ca de ef fd gh").helps(0, 2), NONE);
    }

    @Bench.Says(promise = 20, value = "by whose LINE, if it comes (or goes)")
    static void linesThatComeOrGo() {
        Bench.due("it goes", Bench.ring(5).helps(0, 1), 1);
        Bench.due("it comes", Bench.alone(2).helps(0, 1), 1);
        Bench.due("it comes between parts", Bench.made(4, "ab cd").helps(0, 1), 2);
    }

    @Bench.Says(promise = 20, value = "-2: they do now")
    static void theyDoNow() {
        Bench.due("one", Bench.path(4).helps(0, 1), -2);
        Bench.due("two", Bench.ring(4).helps(0, 2), -2);
        Bench.due("one place", Bench.alone(1).helps(2, 1), -2);
        Bench.due("two where one does", Bench.path(9).helps(1, 2), -2);
    }

    @Bench.Says(promise = 20, value = "NONE: by none, without PLACES, or if one can't be.")
    static void noLineHelps() {
        Bench.due("by none, one", Bench.alone(3).helps(0, 1), NONE);
        Bench.due("by none, two", Bench.alone(4).helps(0, 2), NONE);
        Bench.due("by one, two", Bench.alone(3).helps(0, 2), 1);
        SureHunters x = Bench.ring(4);
        for (int kind : NO_KINDS) {
            Bench.due("kind " + kind, x.helps(kind, 1), NONE);
        }
        for (int hunters : new int[] {0, 3, 4, -1, MIN, MAX}) {
            Bench.due(hunters + " hunters", x.helps(0, hunters), NONE);
            Bench.due(hunters + " hunters who do now", Bench.path(3).helps(0, hunters), NONE);
        }
        Bench.due("without places", new SureHunters().helps(0, 1), NONE);
    }

    @Bench.Says(promise = 20, value = "(The NET stays.)")
    static void helpsLeavesTheNet() {
        SureHunters x = Bench.ring(5);
        x.toggle(0, 2);
        x.toggle(0, 2);
        x.begin(0, 0, NONE, NONE, 2);
        Bench.refused(x, "helps(0, 1)", () -> x.helps(0, 1), 1);
        SureHunters y = Bench.alone(3);
        Bench.refused(y, "helps(0, 1) by none", () -> y.helps(0, 1), NONE);
        Bench.due("games stay", x.time(0, 1), NONE);
        Bench.due("the scene's worth stays", x.scene(6), NONE);
    }

    // ---- promise 21

    @Bench.Says(promise = 21, value = "How many SYMMETRIES there are (1 without PLACES).")
    static void symmetriesFromOneToAll() {
        Bench.due("without places", new SureHunters().symmetries(), 1);
        Bench.due("one place", Bench.alone(1).symmetries(), 1);
        Bench.due("nine alone", Bench.alone(9).symmetries(), 362880);
        Bench.due("all couples of nine", Bench.complete(9).symmetries(), 362880);
        Bench.due("a path of nine", Bench.path(9).symmetries(), 2);
        Bench.due("none but one", Bench.made(7, "ab bc cd de ef cg").symmetries(), 1);
    }

    // ---- promise 22

    @Bench.Says(promise = 22, value = "The least PLACE that one is ALIKE (itself, maybe)")
    static void alikeItself() {
        SureHunters x = Bench.made(7, "ab bc cd de ef cg");
        for (int p = 0; p < 7; p++) {
            Bench.due("alike(" + p + ")", x.alike(p), p);
        }
        Bench.due("the ends of a path", Bench.path(9).alike(8), 0);
        Bench.due("its middle", Bench.path(9).alike(4), 4);
        Bench.due("one place", Bench.alone(1).alike(0), 0);
        SureHunters y = Bench.made(9, "ab bc cd de ef fg gh hi");
        for (int p = 8; p >= 0; p--) {
            Bench.due("on a path of nine: alike(" + p + ")", y.alike(p), Math.min(p, 8 - p));
            Bench.due("symmetries all the same", y.symmetries(), 2);
        }
        Bench.due("not the ring of another length", Bench.made(9, "ab bc cd de ef fa gh hi ig").alike(7), 6);
    }

    @Bench.Says(promise = 22, value = "NONE if there is none such.")
    static void alikeNoPlace() {
        SureHunters x = Bench.path(5);
        for (int place : new int[] {-1, -2, 5, 9, 32, MIN, MAX}) {
            Bench.due("alike(" + place + ")", x.alike(place), NONE);
        }
        Bench.due("without places", new SureHunters().alike(0), NONE);
        Bench.due("behind nine", Bench.path(9).alike(9), NONE);
    }
}
