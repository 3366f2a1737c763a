/** A guarded set, a runner that nobody sees: each sentence that names a boundary has a test of its own. */
public final class WatchBoundsTest {
    private static final int NONE = Bench.NONE;
    private static final int MIN = Bench.MIN;
    private static final int MAX = Bench.MAX;

    public static void main(String[] args) throws Exception {
        Bench.runSentences(WatchBoundsTest.class, 0, 23, 24, 25, 26);
    }

    // ---- the terms

    @Bench.Says(promise = 0, value = "GUARD of a set of PLACES: the greatest set of couples (a HUNTER's PLACE within the set, the RUNNER's outside of it)")
    static void couplesOfInsideAndOutside() {
        Bench.due("one place of five", Bench.ring(5).guard(1), 4);
        Bench.due("all places: none is outside", Bench.ring(5).guard(31), 0);
        Bench.due("one place of one", Bench.alone(1).guard(1), 0);
        Bench.due("places alone: all couples", Bench.alone(9).guard(15), 4 * 5);
    }

    @Bench.Says(promise = 0, value = "HUNTER's turn, so that the HUNTER can go (or stay) within the set")
    static void theHunterStaysWithinTheSet() {
        // 0 and 2 are near 1, but the way between them is not in the set.
        Bench.due("two ends of a path of three", Bench.path(3).guard(5), 0);
        Bench.due("two places of two parts", Bench.made(4, "ab cd").guard(5), 2);
    }

    @Bench.Says(promise = 0, value = "wherever the RUNNER (plain) then goes: outside of the set, they are such a couple again; within it, the PLACE is NEAR the HUNTER's.")
    static void oneStepTooFar() {
        // Four of a path of six: from 0 the hunter comes to 1, and 3, where the runner at 4 can go, is not near that.
        SureHunters x = Bench.path(6);
        Bench.due("all but one couple", x.guard(15), 7);
        Bench.due("the runner beside the set", x.guards(15, 0, 4), 0);
        Bench.due("the runner one line further", x.guards(15, 0, 5), 1);
        Bench.due("the hunter one line nearer", x.guards(15, 1, 4), 1);
        SureHunters y = Bench.made(6, "fa ab bc cd de");
        Bench.due("the first place beside the set", y.guards(30, 4, 0), 0);
        Bench.due("the last one further", y.guards(30, 4, 5), 1);
        // The ways round a ring: as long through the set as outside of it, then one line longer.
        Bench.due("four of a ring of six", Bench.ring(6).guard(15), 6);
        Bench.due("five of a ring of seven", Bench.ring(7).guard(31), 0);
    }

    @Bench.Says(promise = 0, value = "DARK are PLACES at which it may be: at first all but those of the row at which they begin")
    static void darkAtFirst() {
        Bench.due("one of one place", Bench.alone(1).sweep(1), 0);
        Bench.due("two of one place", Bench.alone(1).sweep(2), 0);
        Bench.due("two of two places", Bench.alone(2).sweep(2), 0);
        Bench.due("one of two places", Bench.path(2).sweep(1), 1);
        Bench.due("two of three places", Bench.path(3).sweep(2), 1);
    }

    @Bench.Says(promise = 0, value = "(each NEAR its PLACE)")
    static void unseenHuntersGoToPlacesNear() {
        Bench.due("one does not come to another part", Bench.alone(2).sweep(1), NONE);
        Bench.due("two of three places alone", Bench.alone(3).sweep(2), NONE);
        Bench.due("a place alone, and two with a line", Bench.made(3, "bc").sweep(2), 1);
        Bench.due("along a path of nine", Bench.path(9).sweep(1), 8);
    }

    @Bench.Says(promise = 0, value = "then all PLACES NEAR DARK ones are DARK, but those where they stand.")
    static void darkSpreads() {
        Bench.due("one in a ring of three", Bench.ring(3).sweep(1), NONE);
        Bench.due("two in all couples of four: four by one round", Bench.complete(4).sweep(2), 1);
        Bench.due("two in all couples of five", Bench.complete(5).sweep(2), NONE);
    }

    @Bench.Says(promise = 0, value = "behind whose HUNTERS' turn none is DARK (0, if none is at first)")
    static void sweepOfNoRounds() {
        SureHunters x = Bench.path(2);
        Bench.due("two on two places", x.sweep(2), 0);
        Bench.due("the row", x.swept(2, 0, 0) * 10 + x.swept(2, 0, 1), 1);
        Bench.due("no round 1", x.swept(2, 1, 0), NONE);
        SureHunters y = Bench.alone(1);
        Bench.due("two on one place", y.swept(2, 0, 0) * 10 + y.swept(2, 0, 1), 0);
    }

    @Bench.Says(promise = 0, value = "SWEEP: the fewest ROUNDS, 60 at most")
    static void theLongestSweep() {
        // No net of up to nine places has a longer one (all were tried), so none ever comes to 60.
        SureHunters x = Bench.made(9, "ad af ai bd bf bi cf dg eg eh ei fh");
        String[] rows = ("27 45 58 01 38 46 47 58 01 35 26 45 78 05 13 08 45 67 35 01 58 47 "
                + "46 38 01 58 47 56 03 18 05 28 45 67 35 01 58 47 46 38 01 58 24 57").split(" ");
        Bench.due("one", x.sweep(1), NONE);
        Bench.due("two", x.sweep(2), 43);
        for (int r = 0; r < rows.length; r++) {
            Bench.due("round " + r, x.swept(2, r, 0) * 10 + x.swept(2, r, 1), Integer.parseInt(rows[r]));
        }
        Bench.due("behind the last", x.swept(2, 44, 0), NONE);
        SureHunters star = Bench.made(9, "ab ac ad ae af ag ah ai");
        Bench.due("the longest of one: a star's arms, one by one", star.sweep(1), 14);
    }

    @Bench.Says(promise = 0, value = "of like ones the first, row by row (the row at the beginning, too).")
    static void theFirstOfLikeSweeps() {
        SureHunters x = Bench.path(4);
        Bench.due("rounds", x.sweep(2), 1);
        Bench.due("at the beginning", x.swept(2, 0, 0) * 10 + x.swept(2, 0, 1), 2);
        Bench.due("in round 1", x.swept(2, 1, 0) * 10 + x.swept(2, 1, 1), 13);
        SureHunters y = Bench.path(3);
        Bench.due("one, from the lower end", y.swept(1, 0, 0) * 100 + y.swept(1, 1, 0) * 10 + y.swept(1, 2, 0), 12);
        SureHunters z = Bench.complete(3);
        Bench.due("two, rounds", z.sweep(2), 1);
        Bench.due("0 0 leaves two dark, which two find", z.swept(2, 0, 0) * 10 + z.swept(2, 0, 1), 0);
        Bench.due("in round 1", z.swept(2, 1, 0) * 10 + z.swept(2, 1, 1), 12);
    }

    // ---- promise 23

    @Bench.Says(promise = 23, value = "NONE if it has a PLACE that there is not")
    static void guardOfAPlaceThatIsNot() {
        SureHunters x = Bench.path(5);
        Bench.due("the last place", x.guard(16), 4);
        for (int set : new int[] {32, 33, 63, 64, 512, -1, -2, MIN, MIN + 1, MAX}) {
            Bench.due("guard(" + set + ")", x.guard(set), NONE);
        }
        Bench.due("all of nine", Bench.path(9).guard(511), 0);
        Bench.due("a tenth", Bench.path(9).guard(512), NONE);
        Bench.due("without places", new SureHunters().guard(1), NONE);
    }

    @Bench.Says(promise = 23, value = "or none.")
    static void guardOfNoPlace() {
        Bench.due("an empty set", Bench.path(5).guard(0), NONE);
        Bench.due("without places", new SureHunters().guard(0), NONE);
    }

    // ---- promise 24

    @Bench.Says(promise = 24, value = "1 if a HUNTER, a RUNNER are such a couple, else 0")
    static void coupleOrNot() {
        SureHunters x = Bench.path(5);
        Bench.due("a couple", x.guards(3, 1, 2), 1);
        Bench.due("the hunter outside", x.guards(3, 2, 3), 0);
        Bench.due("the runner within", x.guards(3, 0, 1), 0);
        Bench.due("both at one place", x.guards(3, 0, 0), 0);
        Bench.due("both outside", x.guards(3, 4, 4), 0);
        Bench.due("the set of all", x.guards(31, 0, 4), 0);
    }

    @Bench.Says(promise = 24, value = "NONE if one can't be (a PLACE that there is not; the set as above).")
    static void coupleOfWhatIsNot() {
        SureHunters x = Bench.path(5);
        for (int place : new int[] {-1, -2, 5, 9, 32, 33, MIN, MAX}) {
            Bench.due("the hunter at " + place, x.guards(3, place, 2), NONE);
            Bench.due("the runner at " + place, x.guards(3, 1, place), NONE);
        }
        for (int set : new int[] {0, 32, 35, -1, MIN, MAX}) {
            Bench.due("the set " + set, x.guards(set, 1, 2), NONE);
        }
        Bench.due("without places", new SureHunters().guards(1, 0, 0), NONE);
        Bench.due("the last place of each", x.guards(16, 4, 0), 1);
    }

    // ---- promise 25

    @Bench.Says(promise = 25, value = "ROUNDS of SWEEP by 1, 2 HUNTERS; NONE if there is none")
    static void sweepThatIsNot() {
        Bench.due("one in a ring", Bench.ring(9).sweep(1), NONE);
        Bench.due("two in all couples of nine", Bench.complete(9).sweep(2), NONE);
        Bench.due("two of nine places alone", Bench.alone(9).sweep(2), NONE);
        Bench.due("two in a ring of nine", Bench.ring(9).sweep(2), 4);
    }

    @Bench.Says(promise = 25, value = "without PLACES, or for another number.")
    static void sweepByAnotherNumber() {
        SureHunters x = Bench.path(3);
        for (int hunters : new int[] {0, -1, 3, 4, MIN, MAX}) {
            Bench.due("sweep(" + hunters + ")", x.sweep(hunters), NONE);
        }
        Bench.due("without places, one", new SureHunters().sweep(1), NONE);
        Bench.due("without places, two", new SureHunters().sweep(2), NONE);
    }

    // ---- promise 26

    @Bench.Says(promise = 26, value = "The i-th HUNTER's PLACE (0, 1) in ROUND r (0: at the beginning) of SWEEP")
    static void sweptFromTheBeginningToTheEnd() {
        SureHunters x = Bench.path(9);
        for (int r = 0; r <= 8; r++) {
            Bench.due("round " + r, x.swept(1, r, 0), r);
        }
        Bench.due("behind the last", x.swept(1, 9, 0), NONE);
    }

    @Bench.Says(promise = 26, value = "NONE if there is none such.")
    static void sweptOutOfBounds() {
        SureHunters x = Bench.path(4);
        Bench.due("the last round", x.swept(2, 1, 1), 3);
        for (int r : new int[] {2, 3, 60, 61, -1, -2, MIN, MAX}) {
            Bench.due("round " + r, x.swept(2, r, 0), NONE);
            Bench.due("round " + r + ", the second", x.swept(2, r, 1), NONE);
        }
        for (int i : new int[] {2, 3, -1, -2, MIN, MAX}) {
            Bench.due("hunter " + i, x.swept(2, 0, i), NONE);
        }
        for (int i : new int[] {1, 2, -1, MIN, MAX}) {
            Bench.due("hunter " + i + " of one", x.swept(1, 0, i), NONE);
        }
        for (int hunters : new int[] {0, 3, -1, MIN, MAX}) {
            Bench.due(hunters + " hunters", x.swept(hunters, 0, 0), NONE);
        }
        Bench.due("where there is no sweep", Bench.ring(4).swept(1, 0, 0), NONE);
        Bench.due("without places", new SureHunters().swept(1, 0, 0), NONE);
    }
}
