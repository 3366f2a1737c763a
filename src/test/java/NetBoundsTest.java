/** Numbers of a net, and its dismantling: each sentence that names a boundary has a test of its own. */
public final class NetBoundsTest {
    private static final int NONE = Bench.NONE;
    private static final int THROWN = Bench.THROWN;
    private static final int[] NO_PLACES_OF_FIVE = {-1, -2, 5, 9, 31, 32, 33, Bench.MIN, Bench.MAX};

    public static void main(String[] args) throws Exception {
        Bench.runSentences(NetBoundsTest.class, 0, 6, 7, 8, 9, 10, 11, 12);
    }

    // ---- the terms

    @Bench.Says(promise = 0, value = "NEAR a PLACE: itself")
    static void nearItself() {
        Bench.due("one place", Bench.alone(1).near(0), 1);
        Bench.due("the last of nine without lines", Bench.alone(9).near(8), 256);
    }

    @Bench.Says(promise = 0, value = "DISTANCE: the fewest LINES.")
    static void theFewestLines() {
        Bench.due("to itself", Bench.path(9).distance(4, 4), 0);
        Bench.due("the longest", Bench.path(9).distance(0, 8), 8);
        Bench.due("round by the shorter way", Bench.ring(9).distance(0, 5), 4);
    }

    @Bench.Says(promise = 0, value = "A PART: PLACES that hang together by LINES.")
    static void parts() {
        Bench.due("without places", new SureHunters().about(2), 0);
        Bench.due("one place", Bench.alone(1).about(2), 1);
        Bench.due("nine without lines", Bench.alone(9).about(2), 9);
        Bench.due("a path of nine", Bench.path(9).about(2), 1);
        Bench.due("a path of nine in another order", Bench.made(9, "ai ib bh hc cg gd df fe").about(2), 1);
    }

    @Bench.Says(promise = 0, value = "if there is another one q so that all that are NEAR p (of those left) are NEAR q")
    static void aCornerNeedsAnotherPlace() {
        Bench.due("one place", Bench.alone(1).corner(0), NONE);
        Bench.due("one place does not go", Bench.alone(1).goes(NONE), 0);
        Bench.due("places alone", Bench.alone(2).corner(1), NONE);
        Bench.due("two joined", Bench.path(2).corner(0) * 10 + Bench.path(2).corner(1), 10);
        Bench.due("the middle of three", Bench.path(3).corner(1), NONE);
        Bench.due("the middle goes when the first went", Bench.path(3).goes(1), 1);
    }

    @Bench.Says(promise = 0, value = "again and again the least CORNER goes")
    static void theLeastCornerGoes() {
        SureHunters x = Bench.made(4, "da db dc");
        Bench.due("goes(NONE)", x.goes(NONE), 3);
        Bench.due("in order", x.goes(0) * 100 + x.goes(1) * 10 + x.goes(2), 12);
        // The ends 2 and 3 of a path 2 - 0 - 1 - 3: 2 goes, then 0 is the least corner, ahead of 3.
        SureHunters y = Bench.made(4, "ca ab bd");
        Bench.due("in order", y.goes(0) * 100 + y.goes(1) * 10 + y.goes(2), 201);
    }

    @Bench.Says(promise = 0, value = "and COMES to the least such q")
    static void itComesToTheLeast() {
        // 0 hangs on the side 1 - 2 of a ring of four.
        SureHunters x = Bench.made(5, "ab ac bc cd de eb");
        Bench.due("image(0)", x.image(0), 1);
        Bench.due("corner(0)", x.corner(0), 1);
        // 4 hangs on the side 0 - 1.
        Bench.due("image(4)", Bench.made(5, "ab bc cd da ea eb").image(4), 0);
    }

    @Bench.Says(promise = 0, value = "till there is none.")
    static void tillThereIsNone() {
        Bench.due("a ring of four", Bench.ring(4).goes(NONE), 0);
        Bench.due("all couples of nine", Bench.complete(9).goes(NONE), 8);
        Bench.due("one is left of all couples", Bench.complete(9).left(), 256);
        Bench.due("of two parts two are left", Bench.made(4, "ab cd").left(), 2 | 8);
    }

    @Bench.Says(promise = 0, value = "where it COMES, and that COMES, and so on, up to one that is LEFT (itself, if it is)")
    static void imagesUpToOneThatIsLeft() {
        SureHunters x = Bench.path(9);
        for (int p = 0; p < 9; p++) {
            Bench.due("image(" + p + ")", x.image(p), 8);
        }
        SureHunters y = Bench.made(6, "ab bc cd da de ef");
        Bench.due("one that is left", y.image(1), 1);
        Bench.due("by way of another", y.image(5), 3);
    }

    @Bench.Says(promise = 0, value = "GIRTH: the fewest PLACES of a ring (3 at least).")
    static void ringsOfThreeAtLeast() {
        Bench.due("a line is no ring", Bench.path(2).about(3), NONE);
        Bench.due("three", Bench.ring(3).about(3), 3);
        Bench.due("nine", Bench.ring(9).about(3), 9);
        Bench.due("the fewest of two rings", Bench.made(9, "ab bc cd de ea fg gh hi if").about(3), 4);
        Bench.due("a ring in the last part", Bench.made(9, "gh hi gi").about(3), 3);
    }

    @Bench.Says(promise = 0, value = "COVER: the fewest PLACES so that each is NEAR one of them")
    static void theFewestThatCover() {
        Bench.due("one place", Bench.alone(1).about(6), 1);
        Bench.due("nine without lines", Bench.alone(9).about(5), 9);
        Bench.due("nine without lines, bits", Bench.alone(9).about(6), 511);
        Bench.due("the middle of a star", Bench.made(9, "ia ib ic id ie if ig ih").about(6), 256);
    }

    @Bench.Says(promise = 0, value = "of like ones the first as a row of numbers, rising.")
    static void theFirstCoverAsARow() {
        // The path 1 - 3 - 0 - 4 - 2: the rows 1 4, 2 3 and 3 4 cover it; as a number 2 3 would be least.
        Bench.due("1 4 is ahead of 2 3", Bench.made(5, "ad ae bd ce").about(6), 2 | 16);
        Bench.due("0 ahead of all", Bench.complete(9).about(6), 1);
    }

    @Bench.Says(promise = 0, value = "(0 of a net without PLACES or of several PARTS)")
    static void lowWithoutOnePart() {
        Bench.due("without places", new SureHunters().about(4), 0);
        Bench.due("two places", Bench.alone(2).about(4), 0);
        Bench.due("two parts with lines", Bench.made(4, "ab cd").about(4), 0);
        Bench.due("a ring of five and one place", Bench.made(6, "ab bc cd de ea").about(4), 0);
        Bench.due("a ring of four and one place", Bench.made(5, "ab bc cd da").about(4), 0);
    }

    @Bench.Says(promise = 0, value = "the fewest LINES at one PLACE, if there is no ring of 3, 4 PLACES")
    static void lowByTheFewestLines() {
        Bench.due("a ring of five", Bench.ring(5).about(4), 2);
        Bench.due("a ring of nine", Bench.ring(9).about(4), 2);
        Bench.due("a ring of five with a tail", Bench.made(6, "ab bc cd de ea ef").about(4), 1);
        Bench.due("a ring of five and one of six", Bench.made(8, "ab bc cd de ea af fg gh hc").about(4), 2);
    }

    @Bench.Says(promise = 0, value = "but 1 at least")
    static void lowIsOneAtLeast() {
        Bench.due("one place has no lines", Bench.alone(1).about(4), 1);
        Bench.due("two places", Bench.path(2).about(4), 1);
    }

    @Bench.Says(promise = 0, value = "else 2, if DISMANTLING leaves more than one PLACE, else 1.")
    static void lowByDismantling() {
        Bench.due("a ring of four", Bench.ring(4).about(4), 2);
        Bench.due("a ring of four with a tail", Bench.made(5, "ab bc cd da ae").about(4), 2);
        Bench.due("a ring of three", Bench.ring(3).about(4), 1);
        Bench.due("all couples of nine", Bench.complete(9).about(4), 1);
        Bench.due("a ring of three on a ring of five", Bench.made(6, "ab bc cd de ea fa fb").about(4), 2);
    }

    // ---- promise 6

    @Bench.Says(promise = 6, value = "3: GIRTH (NONE: no ring)")
    static void girthWithoutARing() {
        Bench.due("without places", new SureHunters().about(3), NONE);
        Bench.due("places alone", Bench.alone(9).about(3), NONE);
        Bench.due("a path", Bench.path(9).about(3), NONE);
        SureHunters x = Bench.path(9);
        x.toggle(0, 8);
        Bench.due("a ring by one line more", x.about(3), 9);
        x.toggle(3, 4);
        Bench.due("none by one line less", x.about(3), NONE);
    }

    @Bench.Says(promise = 6, value = "What 0: PLACES, 1: LINES, 2: PARTS")
    static void numbersOfFullAndEmptyNets() {
        SureHunters x = new SureHunters();
        Bench.due("no places", x.about(0), 0);
        Bench.due("no lines", x.about(1), 0);
        Bench.due("no parts", x.about(2), 0);
        SureHunters y = Bench.complete(9);
        Bench.due("places", y.about(0), 9);
        Bench.due("lines", y.about(1), 36);
        Bench.due("parts", y.about(2), 1);
    }

    @Bench.Says(promise = 6, value = "5: how many PLACES COVER has, 6: COVER as bits")
    static void coverWithoutPlaces() {
        SureHunters x = new SureHunters();
        Bench.due("how many", x.about(5), 0);
        Bench.due("bits", x.about(6), 0);
        Bench.due("all of nine", Bench.alone(9).about(6), 511);
    }

    @Bench.Says(promise = 6, value = "7: ACTS that can be undone")
    static void actsThatCanBeUndone() {
        SureHunters x = Bench.alone(2);
        Bench.due("none", x.about(7), 0);
        for (int i = 1; i <= 14; i++) {
            x.toggle(0, 1);
            Bench.due("behind " + i, x.about(7), Math.min(i, 12));
        }
        for (int i = 11; i >= 0; i--) {
            x.undo();
            Bench.due("left", x.about(7), i);
        }
        x.undo();
        Bench.due("not below 0", x.about(7), 0);
    }

    @Bench.Says(promise = 6, value = "8: bytes on the TAPE.")
    static void bytesOnTheTape() {
        SureHunters x = new SureHunters();
        Bench.due("none", x.about(8), 0);
        for (int i = 0; i < 31; i++) {
            x.feed(0, 0, 0, 0, 0);
        }
        Bench.due("full", x.about(8), 600);
        x.end(1);
        Bench.due("one", x.about(8), 1);
    }

    @Bench.Says(promise = 6, value = "NONE for another what.")
    static void aboutAnotherWhat() {
        SureHunters x = Bench.path(5);
        for (int what : new int[] {-1, -2, 9, 10, 32, Bench.MIN, Bench.MAX}) {
            Bench.due("about(" + what + ")", x.about(what), NONE);
        }
    }

    // ---- promise 7

    @Bench.Says(promise = 7, value = "NONE if there is none such.")
    static void nearNoPlace() {
        SureHunters x = Bench.path(5);
        for (int place : NO_PLACES_OF_FIVE) {
            Bench.due("near(" + place + ")", x.near(place), NONE);
        }
        Bench.due("the last", x.near(4), 8 | 16);
        Bench.due("without places", new SureHunters().near(0), NONE);
        Bench.due("behind nine", Bench.path(9).near(9), NONE);
    }

    // ---- promise 8

    @Bench.Says(promise = 8, value = "NONE if one does not come there.")
    static void distanceToAnotherPart() {
        SureHunters x = Bench.made(5, "ab bc de");
        Bench.due("distance(0, 3)", x.distance(0, 3), NONE);
        Bench.due("distance(4, 2)", x.distance(4, 2), NONE);
        Bench.due("distance(0, 2)", x.distance(0, 2), 2);
        Bench.due("the last two of nine", Bench.alone(9).distance(8, 7), NONE);
    }

    @Bench.Says(promise = 8, value = "NoSuchElementException: there is no such PLACE.")
    static void distanceOfNoPlace() {
        SureHunters x = Bench.path(5);
        for (int place : NO_PLACES_OF_FIVE) {
            Bench.refused(x, "distance(" + place + ", 0)", () -> x.distance(place, 0), THROWN);
            Bench.due("distance(0, " + place + ")", Bench.thrown(() -> x.distance(0, place)), THROWN);
            Bench.due("distance of it twice", Bench.thrown(() -> x.distance(place, place)), THROWN);
        }
        Bench.due("without places", Bench.thrown(() -> new SureHunters().distance(0, 0)), THROWN);
        Bench.due("behind nine", Bench.thrown(() -> Bench.path(9).distance(9, 0)), THROWN);
    }

    // ---- promise 9

    @Bench.Says(promise = 9, value = "Of all PLACES together")
    static void cornersOfAllPlaces() {
        SureHunters x = Bench.path(4);
        x.left();
        x.image(0);
        Bench.due("corner(1) behind dismantling", x.corner(1), NONE);
        Bench.due("corner(0) behind dismantling", x.corner(0), 1);
        Bench.due("corner(3) behind dismantling", x.corner(3), 2);
    }

    @Bench.Says(promise = 9, value = "the least q by which one is a CORNER")
    static void cornerByTheLeast() {
        SureHunters x = Bench.complete(9);
        Bench.due("corner(8)", x.corner(8), 0);
        Bench.due("corner(0), not by itself", x.corner(0), 1);
    }

    @Bench.Says(promise = 9, value = "NONE if it is none.")
    static void cornerOfNone() {
        for (int p = 0; p < 4; p++) {
            Bench.due("a ring of four", Bench.ring(4).corner(p), NONE);
        }
        Bench.due("one place", Bench.alone(1).corner(0), NONE);
    }

    @Bench.Says(promise = 9, value = "NoSuchElementException: there is no such PLACE.")
    static void cornerOfNoPlace() {
        SureHunters x = Bench.path(5);
        for (int place : NO_PLACES_OF_FIVE) {
            Bench.refused(x, "corner(" + place + ")", () -> x.corner(place), THROWN);
        }
        Bench.due("without places", Bench.thrown(() -> new SureHunters().corner(0)), THROWN);
        Bench.due("behind nine", Bench.thrown(() -> Bench.path(9).corner(9)), THROWN);
    }

    // ---- promise 10

    @Bench.Says(promise = 10, value = "How many go (i NONE)")
    static void howManyGo() {
        Bench.due("without places", new SureHunters().goes(NONE), 0);
        Bench.due("one place", Bench.alone(1).goes(NONE), 0);
        Bench.due("of nine", Bench.path(9).goes(NONE), 8);
        Bench.due("of a ring", Bench.ring(9).goes(NONE), 0);
        SureHunters x = Bench.ring(4);
        x.goes(NONE);
        x.toggle(0, 2);
        Bench.due("anew with a line", x.goes(NONE), 3);
        x.undo();
        Bench.due("anew by undo", x.goes(NONE), 0);
    }

    @Bench.Says(promise = 10, value = "NONE if there is none such.")
    static void goesOutOfBounds() {
        SureHunters x = Bench.path(3);
        Bench.due("the first", x.goes(0), 0);
        Bench.due("the last", x.goes(1), 1);
        for (int i : new int[] {2, 3, 9, -2, Bench.MIN, Bench.MAX}) {
            Bench.due("goes(" + i + ")", x.goes(i), NONE);
        }
        Bench.due("without places", new SureHunters().goes(0), NONE);
        Bench.due("of a ring", Bench.ring(4).goes(0), NONE);
    }

    // ---- promise 11

    @Bench.Says(promise = 11, value = "PLACES LEFT, as bits.")
    static void placesLeft() {
        Bench.due("without places", new SureHunters().left(), 0);
        Bench.due("one place", Bench.alone(1).left(), 1);
        Bench.due("all of nine", Bench.ring(9).left(), 511);
        Bench.due("one of nine", Bench.path(9).left(), 256);
    }

    // ---- promise 12

    @Bench.Says(promise = 12, value = "IMAGE; NONE if there is no such PLACE.")
    static void imageOfNoPlace() {
        SureHunters x = Bench.path(5);
        for (int place : NO_PLACES_OF_FIVE) {
            Bench.due("image(" + place + ")", x.image(place), NONE);
        }
        Bench.due("without places", new SureHunters().image(0), NONE);
        Bench.due("behind nine", Bench.path(9).image(9), NONE);
    }
}
