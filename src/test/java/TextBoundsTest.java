/** The tape, the text of a net and its faults: each sentence that names a boundary has a test of its own. */
public final class TextBoundsTest {
    private static final int NONE = Bench.NONE;
    private static final String NINE = Bench.text(9, "");

    public static void main(String[] args) throws Exception {
        Bench.runSentences(TextBoundsTest.class, 0, 1, 2, 3, 4, 5);
    }

    private static String blanks(int many) {
        return " ".repeat(many);
    }

    // ---- the terms

    @Bench.Says(promise = 0, value = "A NET is a text of at most 600 bytes")
    static void aNetOfSixHundredBytes() {
        String places = "place a;place b;";
        String line = "line a b;";
        String full = places + blanks(600 - places.length() - line.length()) + line;
        SureHunters x = new SureHunters();
        Bench.feed(x, full);
        Bench.due("bytes", x.about(8), 600);
        Bench.due("net() of 600 bytes", x.net(), 2);
        Bench.due("its last line counts", x.about(1), 1);
        Bench.faulty(full.substring(0, 599) + "?", 1, 599);
        Bench.faulty(full.substring(0, 599) + " ", 2, 600);
        Bench.due("600 blanks", Bench.placesOf(blanks(600)), 0);
        Bench.faulty("a".repeat(600), 1, 0);
    }

    @Bench.Says(promise = 0, value = "{line}")
    static void aNetWithoutLines() {
        Bench.due("the empty text", Bench.placesOf(""), 0);
        Bench.due("blanks alone", Bench.placesOf(" \n\n "), 0);
    }

    @Bench.Says(promise = 0, value = "place: a PLACE, 9 at most.")
    static void ninePlacesAtMost() {
        Bench.due("nine", Bench.placesOf(NINE), 9);
        Bench.due("nine with lines behind", Bench.placesOf(NINE + "line a i;line i h;"), 9);
        Bench.due("ten", Bench.placesOf(NINE + "place j;"), NONE);
    }

    @Bench.Says(promise = 0, value = "a LINE between two unlike PLACES told ahead")
    static void aLineBetweenTwoUnlikePlacesToldAhead() {
        Bench.due("both ahead", Bench.placesOf("place a;place b;line a b;"), 2);
        Bench.due("one place", Bench.placesOf("place a;place b;line a a;"), NONE);
        Bench.due("one behind", Bench.placesOf("place a;line a b;place b;"), NONE);
        Bench.due("the other behind", Bench.placesOf("place b;line a b;place a;"), NONE);
    }

    @Bench.Says(promise = 0, value = "each couple once at most")
    static void eachCoupleOnce() {
        Bench.due("once", Bench.placesOf("place a;place b;line a b;"), 2);
        Bench.due("twice", Bench.placesOf("place a;place b;line a b;line a b;"), NONE);
        Bench.due("turned round", Bench.placesOf("place a;place b;line a b;line b a;"), NONE);
        Bench.due("every couple once",
                Bench.placesOf("place a;place b;place c;line a b;line b c;line c a;"), 3);
    }

    @Bench.Says(promise = 0, value = "PLACES are numbered from 0 on as they are told.")
    static void placesAreNumberedFromZero() {
        SureHunters x = new SureHunters();
        Bench.feed(x, "place z;place m;line m z;place a;line a m;");
        Bench.due("net()", x.net(), 3);
        Bench.due("z is 0", x.near(0), 1 | 2);
        Bench.due("m is 1", x.near(1), 7);
        Bench.due("a is 2", x.near(2), 2 | 4);
    }

    @Bench.Says(promise = 0, value = "words (a .. z, 6 at most)")
    static void wordsOfSixLettersAtMost() {
        Bench.due("six letters", Bench.placesOf("place abcdef;"), 1);
        Bench.due("the first and the last letter", Bench.placesOf("place az;"), 1);
        Bench.faulty("place abcdefg;", 1, 6);
        Bench.faulty("place `;", 1, 6);
        Bench.faulty("place {;", 1, 6);
        Bench.faulty("place A;", 1, 6);
        Bench.faulty("place Z;", 1, 6);
        Bench.faulty("place a1;", 1, 7);
        SureHunters x = new SureHunters();
        Bench.feed(x, "place abcdef;place abcdeg;place abcde;line abcdeg abcdef;");
        Bench.due("names unlike by the sixth letter", x.net(), 3);
        Bench.due("the line is between those two", x.near(0), 3);
    }

    @Bench.Says(promise = 0, value = "the sign ;")
    static void oneSign() {
        Bench.faulty("place a:", 1, 7);
        Bench.faulty("place a<", 1, 7);
        Bench.faulty("place a,", 1, 7);
        Bench.due("the sign", Bench.placesOf("place a;"), 1);
    }

    @Bench.Says(promise = 0, value = "Blanks (32, 10) part them or not")
    static void blanksPartTokensOrNot() {
        Bench.due("none where none is needed", Bench.placesOf("place a;place b;line a b;"), 2);
        Bench.due("many of both", Bench.placesOf("\n place \n a\n;\n\nplace\nb ; line\n\na  b ;\n "), 2);
        for (int sign : new int[] {0, 9, 11, 12, 13, 31, 33, 160}) {
            Bench.faulty("place a;" + (char) sign, 1, 8);
        }
    }

    @Bench.Says(promise = 0, value = "each is as long as can be")
    static void tokensAreAsLongAsCanBe() {
        Bench.faulty("placea;", 2, 0);
        Bench.faulty("place a;place b;linea b;", 2, 16);
        Bench.faulty("place a;place b;line ab;", 3, 21);
        Bench.faulty("placeab;", 1, 0);
    }

    @Bench.Says(promise = 0, value = "NAMES: words but place, line.")
    static void placeAndLineAreNoNames() {
        Bench.faulty("place place;", 2, 6);
        Bench.faulty("place line;", 2, 6);
        Bench.faulty("place a;line line a;", 2, 13);
        Bench.faulty("place a;line a place;", 2, 15);
        Bench.due("words that are like them",
                Bench.placesOf("place plac;place places;place lin;place lines;place p;place l;"), 6);
        Bench.due("words that are like them but for a letter",
                Bench.placesOf("place glace;place plane;place placd;place fine;place lime;place link;"), 6);
    }

    @Bench.Says(promise = 0, value = "FAULTS, the first by its place")
    static void theFirstFault() {
        Bench.faulty("place a place ?", 2, 8);
        Bench.faulty("place a;place a;?", 3, 14);
        Bench.faulty("place a;line a a;line b a;place a", 3, 15);
        Bench.faulty(NINE + "line a b;line b a;place j;", 4, NINE.length() + 16);
        Bench.faulty(NINE + "place j;line a a;", 5, NINE.length());
        Bench.faulty("place a;x abcdefg", 2, 8);
    }

    @Bench.Says(promise = 0, value = "the first byte of a TOKEN")
    static void theFirstByteOfAToken() {
        Bench.faulty("  abc", 2, 2);
        Bench.faulty("place a \n bcd;", 2, 10);
        Bench.faulty("place abc;place abc;", 3, 16);
    }

    @Bench.Says(promise = 0, value = "or of what is none: a longer word, another byte")
    static void theFirstByteOfWhatIsNoToken() {
        Bench.faulty("abcdefg", 1, 0);
        Bench.faulty("place a; abcdefghijkl;", 1, 9);
        Bench.faulty("place a;??", 1, 8);
        Bench.faulty("place abc?;", 1, 9);
        Bench.faulty("place a;" + (char) 255, 1, 8);
        Bench.faulty("place a;" + (char) 128, 1, 8);
    }

    @Bench.Says(promise = 0, value = "bytes from 0")
    static void bytesFromZero() {
        Bench.faulty("?", 1, 0);
        Bench.faulty(";", 2, 0);
        Bench.faulty(" ?", 1, 1);
    }

    @Bench.Says(promise = 0, value = "the end: the text's length")
    static void theEndIsTheLength() {
        Bench.faulty("place", 2, 5);
        Bench.faulty("place ", 2, 6);
        Bench.faulty("place a", 2, 7);
        Bench.faulty("place a \n\n", 2, 10);
        Bench.faulty("place a;line", 2, 12);
        Bench.faulty("place a;line a", 2, 14);
        Bench.faulty("place a;place b;line a b", 2, 24);
    }

    @Bench.Says(promise = 0, value = "at one place the least")
    static void atOnePlaceTheLeast() {
        // The tenth place where none can stand at all: 2 is below 5.
        Bench.faulty(NINE + "line a place", 2, NINE.length() + 7);
        // A longer word where a name that is a place ought to stand: 1 is below 3; where none can stand: 1 is below 2.
        Bench.faulty("place a;line abcdefg a;", 1, 13);
        Bench.faulty("place a;place b;line a b abcdefg", 1, 25);
        Bench.faulty("place a abcdefg", 1, 8);
    }

    @Bench.Says(promise = 0, value = "2 one that can't stand there")
    static void tokensThatCannotStandThere() {
        Bench.faulty("a;", 2, 0);
        Bench.faulty("place a;;", 2, 8);
        Bench.faulty("place ;", 2, 6);
        Bench.faulty("place a b;", 2, 8);
        Bench.faulty("place a line", 2, 8);
        Bench.faulty("place a;line ;", 2, 13);
        Bench.faulty("place a;line a;", 2, 14);
        Bench.faulty("place a;place b;line a b a;", 2, 25);
        Bench.faulty("place a;place b;line a b place", 2, 25);
    }

    @Bench.Says(promise = 0, value = "3 a NAME told already (of a PLACE)")
    static void aNameToldAlready() {
        Bench.faulty("place a;place a;", 3, 14);
        Bench.faulty("place a;place b;place ab;place b", 3, 31);
        Bench.due("a name that begins alike", Bench.placesOf("place a;place aa;place aaa;"), 3);
    }

    @Bench.Says(promise = 0, value = "that is no PLACE")
    static void aNameThatIsNoPlace() {
        Bench.faulty("line a a;", 3, 5);
        Bench.faulty("place a;line b a;", 3, 13);
        Bench.faulty("place a;line a b;", 3, 15);
        Bench.faulty("place ab;line a ab;", 3, 14);
        Bench.faulty("place ab;line abc ab;", 3, 14);
    }

    @Bench.Says(promise = 0, value = "the second one of a line that is the first one")
    static void theSecondThatIsTheFirst() {
        Bench.faulty("place a;line a a;", 3, 15);
        Bench.faulty("place a;place b;line b b?", 3, 23);
    }

    @Bench.Says(promise = 0, value = "4 a couple told already (at the second NAME)")
    static void aCoupleToldAlready() {
        Bench.faulty("place a;place b;line a b;line a b;", 4, 32);
        Bench.faulty("place aa;place b;line b aa;line aa b", 4, 35);
        Bench.faulty("place a;place b;line a b;line b a ?", 4, 32);
    }

    @Bench.Says(promise = 0, value = "5 one PLACE too many (at place)")
    static void onePlaceTooMany() {
        Bench.faulty(NINE + "place j;", 5, NINE.length());
        Bench.faulty(NINE + "line a b; place j;", 5, NINE.length() + 10);
        Bench.faulty(NINE + "\n place a;", 5, NINE.length() + 2);
        Bench.faulty(NINE + "place", 5, NINE.length());
    }

    // ---- promise 1

    @Bench.Says(promise = 1, value = "No PLACES, no SCENE.")
    static void aNewObject() {
        SureHunters x = new SureHunters();
        Bench.due("places", x.about(0), 0);
        Bench.due("near(0)", x.near(0), NONE);
        for (int what = 0; what <= 12; what++) {
            Bench.due("scene(" + what + ")", x.scene(what), -2);
        }
        Bench.due("bytes", x.about(8), 0);
        Bench.due("acts", x.about(7), 0);
    }

    // ---- promise 2

    @Bench.Says(promise = 2, value = "Twenty bytes come behind those on the TAPE")
    static void twentyBytesComeBehind() {
        SureHunters x = new SureHunters();
        Bench.feed(x, "place a");
        Bench.due("behind seven", x.feed(0x3b706c61, 0x63652062, 0x3b6c696e, 0x65206120, 0x623b2020), 27);
        Bench.due("net()", x.net(), 2);
        Bench.due("lines", x.about(1), 1);
    }

    @Bench.Says(promise = 2, value = "of each number the highest first")
    static void theHighestByteFirst() {
        SureHunters x = new SureHunters();
        x.feed(0x706c6163, 0x65202020, 0x20202061, 0x20202020, 0x2020203b);
        Bench.due("net()", x.net(), 1);
        // The lowest byte of the first number is the fourth, and no token.
        x.feed(0x202020ff, -1, -1, -1, -1);
        x.net();
        Bench.due("the place of the fault", x.fault(1), 3);
        // The highest bit of a number is no sign: byte 0x80, then blanks.
        x.feed(0x80202020, 0, 0, 0, 0);
        x.net();
        Bench.due("the place of the fault", x.fault(1), 0);
    }

    @Bench.Says(promise = 2, value = "NONE, and nothing comes, if there would be more than 600.")
    static void feedBeyondSixHundred() {
        SureHunters x = new SureHunters();
        for (int i = 1; i <= 30; i++) {
            Bench.due("feed " + i, x.feed(0x20202020, 0x20202020, 0x20202020, 0x20202020, 0x20202020), 20 * i);
        }
        Bench.refused(x, "feed at 600", () -> x.feed(-1, -1, -1, -1, -1), NONE);
        x.end(581);
        Bench.refused(x, "feed to 601", () -> x.feed(-1, -1, -1, -1, -1), NONE);
        Bench.due("none came", x.end(582), NONE);
        x.end(580);
        Bench.due("feed to 600", x.feed(0x706c6163, 0x65206120, 0x20202020, 0x20202020, 0x2020203b), 600);
        Bench.due("net()", x.net(), 1);
    }

    // ---- promise 3

    @Bench.Says(promise = 3, value = "The TAPE has its first n bytes: n")
    static void endKeepsTheFirst() {
        SureHunters x = new SureHunters();
        Bench.feed(x, "place a;place b;");
        Bench.due("all", x.end(16), 16);
        Bench.due("some", x.end(8), 8);
        Bench.due("bytes", x.about(8), 8);
        Bench.due("net()", x.net(), 1);
        Bench.feed(x, "place a;?");
        Bench.due("none", x.end(0), 0);
        Bench.due("net() of none", x.net(), 0);
    }

    @Bench.Says(promise = 3, value = "NONE, doing nothing, if it has not so many")
    static void endOfMoreThanThereAre() {
        SureHunters x = new SureHunters();
        Bench.refused(x, "end(1) of an empty tape", () -> x.end(1), NONE);
        Bench.feed(x, "place a;?");
        x.end(8);
        Bench.refused(x, "end(9)", () -> x.end(9), NONE);
        Bench.refused(x, "end(600)", () -> x.end(600), NONE);
        Bench.refused(x, "end(MAX)", () -> x.end(Bench.MAX), NONE);
        Bench.due("net()", x.net(), 1);
        Bench.refused(x, "end(1) behind net()", () -> x.end(1), NONE);
    }

    @Bench.Says(promise = 3, value = "or n is below 0.")
    static void endBelowZero() {
        SureHunters x = new SureHunters();
        Bench.feed(x, "place a;");
        Bench.refused(x, "end(-1)", () -> x.end(-1), NONE);
        Bench.refused(x, "end(MIN)", () -> x.end(Bench.MIN), NONE);
        Bench.due("net()", x.net(), 1);
    }

    // ---- promise 4

    @Bench.Says(promise = 4, value = "(empty then, also at a FAULT)")
    static void theTapeIsEmptyThen() {
        SureHunters x = new SureHunters();
        Bench.feed(x, "place a;");
        x.net();
        Bench.due("bytes behind a net", x.about(8), 0);
        Bench.feed(x, "place a;?");
        x.net();
        Bench.due("bytes behind a fault", x.about(8), 0);
        Bench.feed(x, "place b;");
        Bench.due("the next text begins anew", x.net(), 1);
    }

    @Bench.Says(promise = 4, value = "(no SCENE, no ACTS are kept)")
    static void netForgetsSceneAndActs() {
        SureHunters x = Bench.path(3);
        x.toggle(0, 2);
        x.begin(0, 0, NONE, NONE, 2);
        Bench.feed(x, Bench.text(3, "ab bc"));
        Bench.due("net()", x.net(), 3);
        Bench.due("no scene", x.scene(0), -2);
        Bench.due("no acts", x.about(7), 0);
        Bench.due("undo()", x.undo(), false);
        Bench.due("the line is not back", x.near(0), 3);
    }

    @Bench.Says(promise = 4, value = "how many PLACES")
    static void netTellsHowManyPlaces() {
        Bench.due("none", Bench.placesOf(""), 0);
        Bench.due("one", Bench.placesOf("place a;"), 1);
        Bench.due("nine", Bench.placesOf(NINE), 9);
        SureHunters x = Bench.path(4);
        Bench.due("fewer than before", x.net(), 0);
        Bench.due("places", x.about(0), 0);
        Bench.due("lines", x.about(1), 0);
        Bench.feed(x, "place a;place b;");
        Bench.due("no line of an earlier net is left", x.net() * 10 + x.about(1), 20);
    }

    @Bench.Says(promise = 4, value = "NONE: a FAULT (all else stays).")
    static void allElseStaysAtAFault() {
        SureHunters x = Bench.path(3);
        x.toggle(0, 2);
        x.begin(1, 0, 1, NONE, 2);
        x.hunt(1, 1, NONE);
        Bench.feed(x, "place x;place y;line x y;place x;");
        Bench.due("net()", x.net(), NONE);
        Bench.due("places", x.about(0), 3);
        Bench.due("lines", x.about(1), 3);
        Bench.due("acts", x.about(7), 3);
        Bench.due("kind", x.scene(0), 1);
        Bench.due("row", Bench.row(x), 11);
        Bench.due("turn", x.scene(3), 1);
        Bench.due("worth", x.scene(6), 1);
        Bench.due("undo()", x.undo(), true);
        Bench.due("row", Bench.row(x), 1);
    }

    @Bench.Says(promise = 4, value = "NONE: a FAULT (all else stays).")
    static void nothingOfAFaultyTextIsLeft() {
        // Two places and a line were read ahead of the fault: none of it may come to light by a later call.
        String faulty = "place x;place y;line x y;place x;";
        SureHunters toggled = Bench.path(4);
        Bench.feed(toggled, faulty);
        toggled.net();
        Bench.due("a line comes", toggled.toggle(0, 3), 1);
        Bench.due("to the net that stood", toggled.about(0) * 10 + toggled.about(1), 44);
        SureHunters turned = Bench.path(4);
        Bench.feed(turned, faulty);
        turned.net();
        Bench.due("turned round is the net that stood", turned.become(1) * 10 + turned.about(1), 43);
        SureHunters helped = Bench.ring(4);
        Bench.feed(helped, faulty);
        helped.net();
        Bench.due("the first line that helps there", helped.helps(0, 1), 1);
        SureHunters empty = new SureHunters();
        Bench.feed(empty, faulty);
        empty.net();
        Bench.due("no places as before", empty.about(0), 0);
        Bench.refused(empty, "no line there", () -> empty.toggle(0, 1), NONE);
    }

    // ---- promise 5

    @Bench.Says(promise = 5, value = "Of the latest net()")
    static void faultOfTheLatestNet() {
        SureHunters x = new SureHunters();
        Bench.feed(x, "place a;?");
        x.net();
        Bench.feed(x, "place a");
        x.net();
        Bench.due("fault(0)", x.fault(0), 2);
        Bench.due("fault(1)", x.fault(1), 7);
        x.feed(0, 0, 0, 0, 0);
        x.end(0);
        Bench.due("fault(0) behind other calls", x.fault(0), 2);
        Bench.due("fault(1) behind other calls", x.fault(1), 7);
    }

    @Bench.Says(promise = 5, value = "(0: without; ahead of any, too)")
    static void faultWithoutOne() {
        SureHunters x = new SureHunters();
        Bench.due("ahead of any", x.fault(0), 0);
        Bench.feed(x, "?");
        Bench.due("ahead of any, with bytes", x.fault(0), 0);
        x.net();
        Bench.due("with one", x.fault(0), 1);
        x.net();
        Bench.due("without", x.fault(0), 0);
    }

    @Bench.Says(promise = 5, value = "1: its place (NONE likewise)")
    static void faultsPlaceWithoutOne() {
        SureHunters x = new SureHunters();
        Bench.due("ahead of any", x.fault(1), NONE);
        Bench.feed(x, "?");
        x.net();
        Bench.due("with one", x.fault(1), 0);
        x.net();
        Bench.due("without", x.fault(1), NONE);
    }

    @Bench.Says(promise = 5, value = "NONE for another what.")
    static void faultOfAnotherWhat() {
        SureHunters x = new SureHunters();
        Bench.feed(x, "place a?");
        x.net();
        for (int what : new int[] {-1, 2, 3, Bench.MIN, Bench.MAX}) {
            Bench.due("fault(" + what + ")", x.fault(what), NONE);
        }
    }
}
