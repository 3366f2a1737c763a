/** Each promise of the document by hand: ordinary inputs, the edges that it names, wrong inputs. */
public final class PromisesTest {
    private static final int NONE = SureHunters.NONE;
    private static final int MIN = Integer.MIN_VALUE;
    private static final int MAX = Integer.MAX_VALUE;
    private static int done = 0;
    private static int wrong = 0;
    private static int promise = 0;

    public static void main(String[] args) {
        newObject();
        feedAndEnd();
        netAndFault();
        faultPlaces();
        about();
        near();
        distance();
        corner();
        dismantling();
        fewest();
        timeAndStart();
        sure();
        refusals();
        trial();
        helps();
        symmetries();
        guard();
        sweep();
        begin();
        scene();
        best();
        safe();
        hunt();
        run();
        play();
        toggle();
        become();
        undo();
        System.out.println(done + " answers, " + wrong + " wrong");
        System.exit(wrong == 0 ? 0 : 1);
    }

    private static void due(String call, int got, int want) {
        done++;
        if (got != want) {
            wrong++;
            System.out.println("promise " + promise + ": " + call + " answered " + got + ", due is " + want);
        }
    }

    private static void due(String call, boolean got, boolean want) {
        due(call, got ? 1 : 0, want ? 1 : 0);
    }

    private static void newObject() {
        promise = 1;
        SureHunters x = new SureHunters();
        due("NONE", SureHunters.NONE, -1);
        due("about(0)", x.about(0), 0);
        due("scene(0)", x.scene(0), -2);
        due("undo()", x.undo(), false);
        due("about(7)", x.about(7), 0);
        due("about(8)", x.about(8), 0);
        due("fault(0)", x.fault(0), 0);
        due("fault(1)", x.fault(1), NONE);
        due("symmetries()", x.symmetries(), 1);
        due("left()", x.left(), 0);
        due("toggle(0, 0)", x.toggle(0, 0), NONE);
    }

    private static void feedAndEnd() {
        promise = 2;
        SureHunters x = new SureHunters();
        due("feed", x.feed(0x706c6163, 0x6520613b, 0x0a0a2020, 0x20202020, 0x20202020), 20);
        due("net() of highest bytes first", x.net(), 1);
        for (int i = 1; i <= 30; i++) {
            due("feed " + i, x.feed(-1, 0, MIN, MAX, 7), 20 * i);
        }
        due("feed beyond 600", x.feed(1, 2, 3, 4, 5), NONE);
        due("bytes stay", x.about(8), 600);
        x.end(581);
        due("feed to 601", x.feed(1, 2, 3, 4, 5), NONE);
        due("bytes stay", x.about(8), 581);
        x.end(580);
        due("feed to 600", x.feed(1, 2, 3, 4, 5), 600);

        promise = 3;
        due("end(601)", x.end(601), NONE);
        due("end(-1)", x.end(-1), NONE);
        due("end(MIN)", x.end(MIN), NONE);
        due("end(MAX)", x.end(MAX), NONE);
        due("bytes stay", x.about(8), 600);
        due("end(600)", x.end(600), 600);
        due("end(7)", x.end(7), 7);
        due("bytes", x.about(8), 7);
        due("end(8)", x.end(8), NONE);
        due("end(0)", x.end(0), 0);
        due("bytes", x.about(8), 0);
        Bench.feed(x, "place a;place b;line a b;xxx");
        x.end(25);
        Bench.feed(x, "place c;");
        due("the first bytes stay", x.net(), 3);
        due("lines", x.about(1), 1);
    }

    private static void netAndFault() {
        promise = 4;
        SureHunters x = new SureHunters();
        Bench.feed(x, "place a;place b ; line\nb a;");
        due("net()", x.net(), 2);
        due("the tape is empty", x.about(8), 0);
        due("lines", x.about(1), 1);
        x.begin(0, 0, NONE, NONE, 1);
        x.toggle(0, 1);
        x.begin(1, 0, NONE, NONE, 1);
        Bench.feed(x, "place z");
        due("net() with a fault", x.net(), NONE);
        due("the tape is empty", x.about(8), 0);
        due("the net stays", x.about(0), 2);
        due("the scene stays", x.scene(0), 1);
        due("acts stay", x.about(7), 3);
        due("fault", x.fault(0), 2);
        due("net() of the empty tape", x.net(), 0);
        due("no scene", x.scene(0), -2);
        due("no acts", x.about(7), 0);
        due("undo()", x.undo(), false);
        due("no places", x.about(0), 0);
        Bench.feed(x, " \n ");
        due("net() of blanks", x.net(), 0);
        Bench.feed(x, "placea;");
        due("net() of a word that is none of the two", x.net(), NONE);
        Bench.feed(x, "place places;place lines;place pla;line pla places;");
        due("names that begin like the words", x.net(), 3);
        due("lines", x.near(0), 5);
        Bench.feed(x, "place abcdef;place abcdeg;place abcde;line abcdeg abcde;");
        due("names of six letters", x.net(), 3);
        due("the line", x.near(1), 6);
        Bench.feed(x, Bench.text(9, "ab ac ad ae af ag ah ai bc bd be bf bg bh bi "
                + "cd ce cf cg ch ci de df dg dh di ef eg eh ei fg fh fi gh"));
        due("nine places", x.net(), 9);
        due("lines", x.about(1), 34);

        promise = 5;
        due("fault(0) without", x.fault(0), 0);
        due("fault(1) without", x.fault(1), NONE);
        Bench.feed(x, "place a;;");
        x.net();
        due("fault(0)", x.fault(0), 2);
        due("fault(1)", x.fault(1), 8);
        due("fault(2)", x.fault(2), NONE);
        due("fault(-1)", x.fault(-1), NONE);
        due("fault(MIN)", x.fault(MIN), NONE);
        x.become(1);
        x.undo();
        due("fault(0) of the latest net()", x.fault(0), 2);
        x.net();
        due("fault(0) afterwards", x.fault(0), 0);
        due("fault(1) afterwards", x.fault(1), NONE);
    }

    private static void faulty(String text, int fault, int at) {
        SureHunters x = new SureHunters();
        Bench.feed(x, text);
        due("net() of " + text, x.net(), NONE);
        due("fault(0) of " + text, x.fault(0), fault);
        due("fault(1) of " + text, x.fault(1), at);
    }

    private static void faultPlaces() {
        promise = 5;
        faulty("?", 1, 0);
        faulty("  A", 1, 2);
        faulty("place a;\tplace b;", 1, 8);
        faulty("place a;\u00e9", 1, 8);
        faulty("place abcdefg;", 1, 6);
        faulty("abcdefg", 1, 0);
        faulty("place a7;", 1, 7);
        faulty("a;", 2, 0);
        faulty(";", 2, 0);
        faulty("placea;", 2, 0);
        faulty("place", 2, 5);
        faulty("place  \n", 2, 8);
        faulty("place ;", 2, 6);
        faulty("place place;", 2, 6);
        faulty("place line;", 2, 6);
        faulty("place a", 2, 7);
        faulty("place a b;", 2, 8);
        faulty("place a place b;", 2, 8);
        faulty("place a;place b;line a;", 2, 22);
        faulty("place a;place b;line a b", 2, 24);
        faulty("place a;place b;line a b line", 2, 25);
        faulty("place a;place b;line line b;", 2, 21);
        faulty("place a;place a;", 3, 14);
        faulty("place a;place a?", 3, 14);
        faulty("place a;line b a;", 3, 13);
        faulty("place a;line a b;place b;", 3, 15);
        faulty("place a;line a a;", 3, 15);
        faulty("line a a;", 3, 5);
        faulty("place a;place b;line a b;line a b;", 4, 32);
        faulty("place a;place b;line a b;line b a ?", 4, 32);
        String nine = Bench.text(9, "");
        faulty(nine + "place j;", 5, 72);
        faulty(nine + "place a;", 5, 72);
        faulty(nine + "place", 5, 72);
        faulty(nine + "line a b; place?", 5, 82);
        faulty(nine + "j", 2, 72);
    }

    private static void about() {
        promise = 6;
        SureHunters x = Bench.made(6, "ab bc ca de");
        due("places", x.about(0), 6);
        due("lines", x.about(1), 4);
        due("parts", x.about(2), 3);
        due("girth", x.about(3), 3);
        due("low of several parts", x.about(4), 0);
        due("cover", x.about(5), 3);
        due("cover's bits: the first row", x.about(6), 1 | 8 | 32);
        due("acts", x.about(7), 0);
        Bench.feed(x, "abc");
        due("bytes", x.about(8), 3);
        due("about(9)", x.about(9), NONE);
        due("about(-1)", x.about(-1), NONE);
        due("about(MAX)", x.about(MAX), NONE);
        x.toggle(0, 3);
        due("acts", x.about(7), 1);
        due("girth of a tree", Bench.path(5).about(3), NONE);
        due("low of a tree", Bench.path(5).about(4), 1);
        due("low of one place", Bench.path(1).about(4), 1);
        due("girth of a ring", Bench.ring(9).about(3), 9);
        due("low of a ring of 5", Bench.ring(5).about(4), 2);
        due("low of a ring of 4", Bench.ring(4).about(4), 2);
        due("low of a ring of 3", Bench.ring(3).about(4), 1);
        due("low of a ring with a tail", Bench.made(6, "ab bc cd de ea ef").about(4), 1);
        due("low of a ring of 4 with a tail", Bench.made(5, "ab bc cd da ae").about(4), 2);
        due("cover of a path", Bench.path(6).about(6), 2 | 16);
        due("cover of a longer path: the first row", Bench.path(7).about(6), 1 | 4 | 32);
        due("cover of places alone", Bench.made(3, "").about(6), 7);
        due("cover of a star", Bench.made(4, "da db dc").about(6), 8);
        due("lines of all couples", Bench.complete(9).about(1), 36);
        due("parts of places alone", Bench.made(9, "").about(2), 9);
    }

    private static void near() {
        promise = 7;
        SureHunters x = Bench.path(4);
        due("near(0)", x.near(0), 3);
        due("near(1)", x.near(1), 7);
        due("near(3)", x.near(3), 12);
        due("near(4)", x.near(4), NONE);
        due("near(-1)", x.near(-1), NONE);
        due("near(MIN)", x.near(MIN), NONE);
        due("near of nine", Bench.complete(9).near(8), 511);
    }

    private static void distance() {
        promise = 8;
        SureHunters x = Bench.made(6, "ab bc cd de ea");
        due("distance(0, 0)", x.distance(0, 0), 0);
        due("distance(0, 3)", x.distance(0, 3), 2);
        due("distance(3, 0)", x.distance(3, 0), 2);
        due("distance(0, 5)", x.distance(0, 5), NONE);
        due("distance(0, 6)", Bench.thrown(() -> x.distance(0, 6)), Bench.THROWN);
        due("distance(6, 0)", Bench.thrown(() -> x.distance(6, 0)), Bench.THROWN);
        due("distance(-1, 0)", Bench.thrown(() -> x.distance(-1, 0)), Bench.THROWN);
        due("distance(0, MIN)", Bench.thrown(() -> x.distance(0, MIN)), Bench.THROWN);
        due("without places", Bench.thrown(() -> new SureHunters().distance(0, 0)), Bench.THROWN);
        due("the longest", Bench.path(9).distance(8, 0), 8);
    }

    private static void corner() {
        promise = 9;
        SureHunters x = Bench.path(4);
        due("corner(0)", x.corner(0), 1);
        due("corner(1)", x.corner(1), NONE);
        due("corner(3)", x.corner(3), 2);
        due("corner(4)", Bench.thrown(() -> x.corner(4)), Bench.THROWN);
        due("corner(-1)", Bench.thrown(() -> x.corner(-1)), Bench.THROWN);
        due("without places", Bench.thrown(() -> new SureHunters().corner(0)), Bench.THROWN);
        due("of all couples, the least", Bench.complete(4).corner(2), 0);
        due("of all couples, not itself", Bench.complete(4).corner(0), 1);
        due("of a place alone", Bench.made(2, "").corner(0), NONE);
    }

    private static void dismantling() {
        promise = 10;
        SureHunters x = Bench.made(6, "ab bc cd da de ef");
        due("goes(NONE)", x.goes(NONE), 2);
        due("goes(0)", x.goes(0), 5);
        due("goes(1)", x.goes(1), 4);
        due("goes(2)", x.goes(2), NONE);
        due("goes(-2)", x.goes(-2), NONE);
        due("goes(MAX)", x.goes(MAX), NONE);
        promise = 11;
        due("left()", x.left(), 15);
        due("left() of a path", Bench.path(9).left(), 256);
        due("left() of a ring", Bench.ring(5).left(), 31);
        promise = 12;
        due("image(5)", x.image(5), 3);
        due("image(4)", x.image(4), 3);
        due("image(0)", x.image(0), 0);
        due("image(6)", x.image(6), NONE);
        due("image(-1)", x.image(-1), NONE);
        due("image of a long chain", Bench.path(9).image(0), 8);
        x.toggle(0, 2);
        promise = 10;
        due("goes anew with the net", x.goes(NONE), 5);
    }

    private static void fewest() {
        promise = 13;
        due("a path", Bench.path(5).fewest(0), 1);
        due("a ring of 5", Bench.ring(5).fewest(0), 2);
        due("a ring of 5, lazy", Bench.ring(5).fewest(1), 2);
        due("a ring of 3", Bench.ring(3).fewest(0), 1);
        due("the rook's net", Bench.rook().fewest(0), 2);
        due("the rook's net, lazy", Bench.rook().fewest(1), 3);
        due("three places alone", Bench.made(3, "").fewest(0), 3);
        due("four places alone", Bench.made(4, "").fewest(0), NONE);
        due("a path, swift", Bench.path(4).fewest(2), 1);
        due("kind 3", Bench.path(4).fewest(3), NONE);
        due("kind -1", Bench.path(4).fewest(-1), NONE);
        due("kind MIN", Bench.path(4).fewest(MIN), NONE);
        due("without places", new SureHunters().fewest(0), NONE);
        // A place between two hunters of a bigger wheel: swift runners slip by where plain ones do not.
        due("a wheel", Bench.made(7, "ab ac ad ae af ag bc cd de ef fg gb").fewest(0), 1);
        due("a wheel, swift", Bench.made(7, "ab ac ad ae af ag bc cd de ef fg gb").fewest(2), 1);
    }

    private static void timeAndStart() {
        promise = 14;
        SureHunters x = Bench.path(5);
        due("time(0, 1)", x.time(0, 1), 2);
        due("time(0, 2)", x.time(0, 2), 1);
        due("time(0, 3)", x.time(0, 3), 1);
        due("time(0, 0)", x.time(0, 0), NONE);
        due("time(0, 4)", x.time(0, 4), NONE);
        due("time(3, 1)", x.time(3, 1), NONE);
        due("time(-1, 1)", x.time(-1, 1), NONE);
        due("time(MAX, MAX)", x.time(MAX, MAX), NONE);
        due("of a ring", Bench.ring(6).time(0, 1), NONE);
        due("of one place", Bench.path(1).time(1, 3), 0);
        due("of three places", Bench.made(3, "").time(2, 3), 0);
        due("without places", new SureHunters().time(0, 1), NONE);
        due("a path of 9", Bench.path(9).time(0, 1), 4);

        promise = 15;
        due("start(0, 1, 0)", x.start(0, 1, 0), 2);
        due("start(0, 2, 0)", x.start(0, 2, 0), 0);
        due("start(0, 2, 1)", x.start(0, 2, 1), 3);
        due("start(0, 3, 0)", x.start(0, 3, 0), 0);
        due("start(0, 3, 1)", x.start(0, 3, 1), 0);
        due("start(0, 3, 2)", x.start(0, 3, 2), 3);
        due("start(0, 2, 2)", x.start(0, 2, 2), NONE);
        due("start(0, 2, -1)", x.start(0, 2, -1), NONE);
        due("start(0, 2, MAX)", x.start(0, 2, MAX), NONE);
        due("start(0, 4, 0)", x.start(0, 4, 0), NONE);
        due("start(3, 1, 0)", x.start(3, 1, 0), NONE);
        due("of a ring: the first row", Bench.ring(6).start(0, 1, 0), 0);
        due("four places alone", Bench.made(4, "").start(0, 3, 2), 0);
        due("without places", new SureHunters().start(0, 1, 0), NONE);
    }

    private static void sure() {
        promise = 16;
        SureHunters x = Bench.ring(6);
        due("sure(0, 0)", x.sure(0, 0, NONE, NONE), 1 | 2 | 32);
        due("two hunters", x.sure(0, 3, 0, NONE), 63);
        due("one at a time in two parts", Bench.made(4, "ab cd").sure(0, 0, NONE, NONE), 3);
        due("in any order", Bench.made(5, "ab cd").sure(0, 4, 2, 0), 31);
        due("NONE ahead", x.sure(0, 0, NONE, 1), NONE);
        due("nobody", x.sure(0, NONE, NONE, NONE), NONE);
        due("no such place", x.sure(0, 0, 6, NONE), NONE);
        due("another number below 0", x.sure(0, 0, -2, NONE), NONE);
        due("another third", x.sure(0, 0, 0, -2), NONE);
        due("kind 3", x.sure(3, 0, NONE, NONE), NONE);
        due("kind -1", x.sure(-1, 0, NONE, NONE), NONE);
        due("several at one place", x.sure(0, 0, 0, 0), 63);
        due("without places", new SureHunters().sure(0, 0, NONE, NONE), NONE);
        due("lazy on the rook's net, caught or beside alone", Bench.rook().sure(1, 0, 0, NONE), 1 | 2 | 4 | 8 | 64);
    }

    private static void refusals() {
        promise = 17;
        SureHunters x = Bench.ring(5);
        due("refusals(0, 1)", x.refusals(0, 1), 10);
        due("refusals(0, 2)", x.refusals(0, 2), 0);
        due("refusals(0, 0)", x.refusals(0, 0), NONE);
        due("refusals(0, 4)", x.refusals(0, 4), NONE);
        due("refusals(3, 1)", x.refusals(3, 1), NONE);
        due("without places", new SureHunters().refusals(0, 1), NONE);
        SureHunters y = Bench.made(3, "");
        due("three places alone, two hunters", y.refusals(0, 2), 3 * 2 + 3);

        promise = 18;
        due("the first, runner", y.refusal(0, 2, 0, 0), 1);
        due("the first, hunter", y.refusal(0, 2, 0, 1), 0);
        due("the first, second hunter", y.refusal(0, 2, 0, 2), 0);
        due("the first, no third hunter", y.refusal(0, 2, 0, 3), NONE);
        due("the second, runner", y.refusal(0, 2, 1, 0), 2);
        due("the third, runner", y.refusal(0, 2, 2, 0), 2);
        due("the third, hunter", y.refusal(0, 2, 2, 1), 0);
        due("the third, second hunter", y.refusal(0, 2, 2, 2), 1);
        due("the last, runner", y.refusal(0, 2, 8, 0), 1);
        due("the last, second hunter", y.refusal(0, 2, 8, 2), 2);
        due("behind the last", y.refusal(0, 2, 9, 0), NONE);
        due("ahead of the first", y.refusal(0, 2, -1, 0), NONE);
        due("what 4", y.refusal(0, 2, 0, 4), NONE);
        due("what -1", y.refusal(0, 2, 0, -1), NONE);
        due("what MIN", y.refusal(0, 2, 0, MIN), NONE);
        due("kind 3", y.refusal(3, 2, 0, 0), NONE);
        due("four hunters", y.refusal(0, 4, 0, 0), NONE);
        due("without places", new SureHunters().refusal(0, 1, 0, 0), NONE);
    }

    private static void trial() {
        promise = 19;
        // Seed 1: 1103527590, whose upper half is 16838; then 2524885223 (unsigned), whose upper half is 38526.
        SureHunters x = Bench.made(2, "");
        due("16838 % 2 is the START's place", x.trial(0, 1, 1), 0);
        // Seed 3: 3310558080 (unsigned), whose upper half is 50515.
        due("the other one is never caught", x.trial(0, 1, 3), -2);
        due("one place", Bench.path(1).trial(2, 3, MIN), 0);
        due("16838 % 3 is 2, START is 1", Bench.path(3).trial(0, 1, 1), 1);
        due("kind 3", x.trial(3, 1, 1), NONE);
        due("no hunters", x.trial(0, 0, 1), NONE);
        due("four hunters", x.trial(0, 4, 1), NONE);
        due("without places", new SureHunters().trial(0, 1, 1), NONE);
        // START is 2; 16838 % 5 is 3: beside it.
        due("beside START", Bench.path(5).trial(0, 1, 1), 1);
        // A ring of 4 from 0: 16838 % 4 is 2; BEST stays at 0; 38526 % 3 is 0, the first of 1, 2, 3; then caught.
        due("a ring that one alone does not hold", Bench.ring(4).trial(0, 1, 1), 2);
        due("by the last turn of all", Bench.ring(9).trial(0, 1, 17032), 100);
    }

    private static void helps() {
        promise = 20;
        due("a ring of 4", Bench.ring(4).helps(0, 1), 1);
        SureHunters x = Bench.made(4, "ac cd db");
        due("a path is held now", x.helps(0, 1), -2);
        due("two parts: a line that joins them", Bench.made(4, "ab cd").helps(0, 1), 2);
        due("three parts: none", Bench.made(3, "").helps(0, 1), NONE);
        due("three parts, two hunters", Bench.made(3, "").helps(0, 2), 1);
        due("a ring of 3 alone and a place", Bench.made(4, "bc cd db").helps(0, 1), 1);
        due("the second place is the first that helps", Bench.made(6, "bc cd de ef fb ac").helps(0, 1), 18);
        due("three hunters", Bench.ring(4).helps(0, 3), NONE);
        due("no hunters", Bench.ring(4).helps(0, 0), NONE);
        due("kind 3", Bench.ring(4).helps(3, 1), NONE);
        due("without places", new SureHunters().helps(0, 1), NONE);
        SureHunters y = Bench.ring(4);
        y.helps(0, 1);
        due("the net stays", y.about(1), 4);
        due("no act", y.about(7), 0);
        due("games stay", y.time(0, 1), NONE);
        due("and again", y.helps(0, 1), 1);
        y.toggle(0, 1);
        due("anew with the net", y.helps(0, 1), -2);
    }

    private static void symmetries() {
        promise = 21;
        due("a path", Bench.path(5).symmetries(), 2);
        due("a ring", Bench.ring(9).symmetries(), 18);
        due("places alone", Bench.made(9, "").symmetries(), 362880);
        due("all couples", Bench.complete(9).symmetries(), 362880);
        due("the rook's net", Bench.rook().symmetries(), 72);
        due("one place", Bench.path(1).symmetries(), 1);
        due("without places", new SureHunters().symmetries(), 1);
        due("one without", Bench.made(7, "ab bc cd de ef cg").symmetries(), 1);
        promise = 22;
        SureHunters x = Bench.made(5, "ab bc cd be");
        due("alike(3)", x.alike(3), 3);
        due("alike(4)", x.alike(4), 0);
        due("alike(0)", x.alike(0), 0);
        due("alike(5)", x.alike(5), NONE);
        due("alike(-1)", x.alike(-1), NONE);
        due("places alone", Bench.made(9, "").alike(8), 0);
        due("like lines, but not alike", Bench.made(9, "ab bc cd de ef fa gh hi ig").alike(8), 6);
        due("without places", new SureHunters().alike(0), NONE);
    }

    private static void guard() {
        promise = 23;
        SureHunters x = Bench.ring(5);
        due("one place", x.guard(1), 4);
        due("two beside", x.guard(3), 6);
        due("all", x.guard(31), 0);
        due("none", x.guard(0), NONE);
        due("a place too many", x.guard(32), NONE);
        due("a place too many with others", x.guard(33), NONE);
        due("below 0", x.guard(-1), NONE);
        due("MIN", x.guard(MIN), NONE);
        due("without places", new SureHunters().guard(1), NONE);
        due("two apart in a path", Bench.path(3).guard(5), 0);
        due("ends of two parts", Bench.made(4, "ab cd").guard(1 | 4), 2);

        promise = 24;
        SureHunters y = Bench.made(4, "ab cd");
        due("the hunter is where the runner can't harm", y.guards(5, 0, 1), 1);
        due("the hunter is in the other part", y.guards(5, 2, 1), 0);
        due("the hunter outside", y.guards(5, 1, 3), 0);
        due("the runner inside", y.guards(5, 0, 2), 0);
        due("no such hunter's place", y.guards(5, 4, 1), NONE);
        due("no such runner's place", y.guards(5, 0, -1), NONE);
        due("no such set", y.guards(16, 0, 1), NONE);
        due("an empty set", y.guards(0, 0, 1), NONE);
        due("a set below 0", y.guards(-5, 0, 1), NONE);
        due("in a ring, beside", x.guards(3, 0, 3), 1);
        due("in a ring, the far side", x.guards(3, 0, 2), 1);
    }

    private static void sweep() {
        promise = 25;
        due("a path, one hunter", Bench.path(5).sweep(1), 4);
        due("one place", Bench.path(1).sweep(1), 0);
        due("one place, two hunters", Bench.path(1).sweep(2), 0);
        due("two places", Bench.path(2).sweep(1), 1);
        due("two places alone, one hunter", Bench.made(2, "").sweep(1), NONE);
        due("two places alone, two hunters", Bench.made(2, "").sweep(2), 0);
        due("a ring, one hunter", Bench.ring(3).sweep(1), NONE);
        due("all couples of 4, two hunters", Bench.complete(4).sweep(2), 1);
        due("all couples of 5, two hunters", Bench.complete(5).sweep(2), NONE);
        due("a ring of 6, two hunters", Bench.ring(6).sweep(2), 2);
        due("no hunters", Bench.path(3).sweep(0), NONE);
        due("three hunters", Bench.path(3).sweep(3), NONE);
        due("without places", new SureHunters().sweep(1), NONE);

        promise = 26;
        SureHunters x = Bench.complete(4);
        due("round 0", x.swept(2, 0, 0), 0);
        due("round 0", x.swept(2, 0, 1), 1);
        due("round 1", x.swept(2, 1, 0), 2);
        due("round 1", x.swept(2, 1, 1), 3);
        due("round 2", x.swept(2, 2, 0), NONE);
        due("round -1", x.swept(2, -1, 0), NONE);
        due("hunter 2", x.swept(2, 0, 2), NONE);
        due("hunter -1", x.swept(2, 0, -1), NONE);
        due("one hunter can't", x.swept(1, 0, 0), NONE);
        due("three hunters", x.swept(3, 0, 0), NONE);
        due("without places", new SureHunters().swept(1, 0, 0), NONE);
        SureHunters y = Bench.path(5);
        for (int r = 0; r <= 4; r++) {
            due("along a path", y.swept(1, r, 0), r);
        }
        due("the second of one hunter", y.swept(1, 0, 1), NONE);
        y.become(0);
        due("anew with the net", y.sweep(1), 0);
        due("anew with the net", y.swept(1, 1, 0), NONE);
    }

    private static void begin() {
        promise = 27;
        SureHunters x = Bench.ring(5);
        due("three", x.begin(2, 4, 0, 3, 1), 3);
        due("rising", x.scene(10) * 100 + x.scene(11) * 10 + x.scene(12), 34);
        due("an act", x.about(7), 1);
        due("nobody", x.begin(0, NONE, NONE, NONE, 1), NONE);
        due("NONE ahead", x.begin(0, 1, NONE, 1, 1), NONE);
        due("kind 3", x.begin(3, 1, NONE, NONE, 1), NONE);
        due("kind -1", x.begin(-1, 1, NONE, NONE, 1), NONE);
        due("no such runner's place", x.begin(0, 1, NONE, NONE, 5), NONE);
        due("no runner", x.begin(0, 1, NONE, NONE, NONE), NONE);
        due("no such place", x.begin(0, 5, NONE, NONE, 1), NONE);
        due("another below 0", x.begin(0, 1, -2, NONE, 1), NONE);
        due("no acts", x.about(7), 1);
        due("the scene stays", x.scene(0), 2);
        due("caught at once", x.begin(1, 1, 1, NONE, 1), 2);
        due("is caught", x.scene(5), 1);
        due("an act", x.about(7), 2);
        due("without places", new SureHunters().begin(0, 0, NONE, NONE, 0), NONE);
    }

    private static void scene() {
        promise = 28;
        SureHunters x = Bench.path(5);
        due("without a scene", x.scene(0), -2);
        x.begin(2, 1, 0, NONE, 4);
        due("kind", x.scene(0), 2);
        due("hunters", x.scene(1), 2);
        due("runner", x.scene(2), 4);
        due("turn", x.scene(3), 0);
        due("rounds", x.scene(4), 0);
        due("caught", x.scene(5), 0);
        due("worth", x.scene(6), 3);
        due("scene(7)", x.scene(7), -2);
        due("scene(9)", x.scene(9), -2);
        due("scene(10)", x.scene(10), 0);
        due("scene(11)", x.scene(11), 1);
        due("scene(12)", x.scene(12), -2);
        due("scene(13)", x.scene(13), -2);
        due("scene(-1)", x.scene(-1), -2);
        due("scene(MAX)", x.scene(MAX), -2);
        due("scene(MIN)", x.scene(MIN), -2);
        x.hunt(2, 0, NONE);
        due("turn", x.scene(3), 1);
        due("rounds", x.scene(4), 1);
        due("worth at the runner's turn", x.scene(6), 2);
        x.run(2);
        due("it went on by itself", x.scene(5), 1);
        due("turn when it is caught", x.scene(3), 0);
        due("worth when it is caught", x.scene(6), 0);
        due("rounds", x.scene(4), 1);
        SureHunters y = Bench.ring(4);
        y.begin(0, 0, NONE, NONE, 2);
        due("worth NONE", y.scene(6), NONE);
        y.hunt(1, NONE, NONE);
        due("worth NONE at the runner's turn", y.scene(6), NONE);
    }

    private static void best() {
        promise = 29;
        SureHunters x = Bench.path(5);
        due("without a scene", x.best(0), NONE);
        x.begin(0, 0, 4, NONE, 2);
        due("worth", x.scene(6), 2);
        due("the first of like rows", x.best(0), 0);
        due("the first of like rows", x.best(1), 3);
        due("no third", x.best(2), NONE);
        due("best(-1)", x.best(-1), NONE);
        x.hunt(0, 3, NONE);
        due("the runner: the least of like places", x.best(0), 1);
        due("the runner has one place", x.best(1), NONE);
        x.run(3);
        due("caught", x.best(0), NONE);
        SureHunters y = Bench.ring(5);
        y.begin(0, 3, NONE, NONE, 0);
        due("NONE is like NONE: the first row", y.best(0), 2);
        y.hunt(4, NONE, NONE);
        due("the runner where it is not sure", y.best(0), 1);
        SureHunters z = Bench.made(6, "ab bc cd de ef");
        z.begin(1, 0, 5, NONE, 2);
        due("lazy: one alone leaves", z.best(0) * 10 + z.best(1), 4);
        z.begin(0, 0, 5, NONE, 2);
        due("plain: both may", z.best(0) * 10 + z.best(1), 14);
    }

    private static void safe() {
        promise = 30;
        SureHunters x = Bench.ring(6);
        due("without a scene", x.safe(), NONE);
        x.begin(0, 0, NONE, NONE, 3);
        due("the hunters' turn", x.safe(), NONE);
        x.hunt(1, NONE, NONE);
        due("safe()", x.safe(), 8 | 16);
        x.run(2);
        x.hunt(2, NONE, NONE);
        due("caught", x.safe(), NONE);
        x.begin(2, 0, NONE, NONE, 2);
        x.hunt(0, NONE, NONE);
        due("swift", x.safe(), 4 | 8 | 16);
        x.begin(0, 0, 3, NONE, 2);
        x.hunt(0, 3, NONE);
        due("none is safe", x.safe(), 0);
    }

    private static void hunt() {
        promise = 31;
        SureHunters x = Bench.made(5, "ab bc cd de");
        due("without a scene", x.hunt(0, NONE, NONE), false);
        x.begin(0, 0, 2, NONE, 4);
        due("too few", x.hunt(0, NONE, NONE), false);
        due("too many", x.hunt(0, 2, 2), false);
        due("NONE ahead", x.hunt(NONE, 0, 2), false);
        due("too far", x.hunt(2, 2, NONE), false);
        due("no such place", x.hunt(0, 5, NONE), false);
        due("no acts", x.about(7), 1);
        due("in any order", x.hunt(3, 1, NONE), true);
        due("an act", x.about(7), 2);
        due("rising", x.scene(10) * 10 + x.scene(11), 13);
        due("not their turn", x.hunt(1, 3, NONE), false);
        x.run(4);
        due("caught", x.hunt(1, 4, NONE), true);
        due("turn", x.scene(3), 1);
        due("is caught", x.hunt(1, 4, NONE), false);
        x.begin(1, 0, 2, 2, 4);
        due("lazy: two leave", x.hunt(1, 2, 3), false);
        due("lazy: one leaves", x.hunt(2, 2, 1), true);
        x.undo();
        due("lazy: none leaves", x.hunt(2, 0, 2), true);
        x.begin(1, 1, 2, NONE, 4);
        due("lazy: 1 to 2 and 2 to 3 are two", x.hunt(2, 3, NONE), false);
        SureHunters y = Bench.ring(3);
        y.begin(1, 0, 1, NONE, 2);
        due("lazy: seen as 0 to 2 it is one", y.hunt(1, 2, NONE), true);
    }

    private static void run() {
        promise = 32;
        SureHunters x = Bench.path(5);
        due("without a scene", x.run(0), false);
        x.begin(0, 0, NONE, NONE, 2);
        due("not its turn", x.run(2), false);
        x.hunt(0, NONE, NONE);
        due("too far", x.run(4), false);
        due("no such place", x.run(5), false);
        due("run(-1)", x.run(-1), false);
        due("run(MIN)", x.run(MIN), false);
        due("run(34)", x.run(34), false);
        due("no act", x.about(7), 2);
        due("it stays", x.run(2), true);
        due("an act", x.about(7), 3);
        due("turn", x.scene(3), 0);
        x.begin(2, 1, NONE, NONE, 3);
        x.hunt(2, NONE, NONE);
        due("swift: not through a hunter", x.run(1), false);
        due("swift: into a hunter", x.run(2), true);
        due("is caught", x.run(2), false);
        x.begin(2, 0, NONE, NONE, 4);
        x.hunt(0, NONE, NONE);
        due("swift: two", x.run(2), true);
        x.hunt(0, NONE, NONE);
        due("swift: onto a hunter behind", x.run(0), true);
        due("caught", x.scene(5), 1);
    }

    private static void play() {
        promise = 33;
        SureHunters x = Bench.path(5);
        due("without a scene", x.play(1), NONE);
        x.begin(0, 0, NONE, NONE, 2);
        due("play(0)", x.play(0), NONE);
        due("play(101)", x.play(101), NONE);
        due("play(-1)", x.play(-1), NONE);
        due("play(MIN)", x.play(MIN), NONE);
        due("no acts", x.about(7), 1);
        due("one turn", x.play(1), 1);
        due("an act", x.about(7), 2);
        due("the hunter went", x.scene(10), 1);
        due("the runner's turn", x.scene(3), 1);
        due("till it is caught", x.play(100), 6);
        due("one act", x.about(7), 3);
        due("rounds", x.scene(4), 4);
        due("is caught", x.play(1), NONE);
        due("undone at once", x.undo(), true);
        due("rounds", x.scene(4), 1);
        SureHunters y = Bench.ring(5);
        y.begin(0, 0, NONE, NONE, 2);
        due("for ever", y.play(100), 100);
        due("rounds", y.scene(4), 50);
    }

    private static void toggle() {
        promise = 34;
        SureHunters x = Bench.path(4);
        due("it comes", x.toggle(0, 3), 1);
        due("lines", x.about(1), 4);
        due("girth", x.about(3), 4);
        due("it goes", x.toggle(3, 0), 0);
        due("lines", x.about(1), 3);
        due("two acts", x.about(7), 2);
        x.begin(0, 0, NONE, NONE, 1);
        due("one place", x.toggle(2, 2), NONE);
        due("no such place", x.toggle(0, 4), NONE);
        due("no such place", x.toggle(-1, 0), NONE);
        due("MIN", x.toggle(MIN, MAX), NONE);
        due("the scene stays", x.scene(0), 0);
        due("acts", x.about(7), 3);
        x.toggle(1, 2);
        due("no scene", x.scene(0), -2);
        due("parts", x.about(2), 2);
        due("fewest anew", x.fewest(0), 2);
    }

    private static void become() {
        promise = 35;
        SureHunters x = Bench.made(6, "bc cd de eb ab ef");
        due("those left", x.become(0), 4);
        due("numbered anew", x.near(0), 1 | 2 | 8);
        due("lines", x.about(1), 4);
        due("an act", x.about(7), 1);
        due("twice", x.become(2), 8);
        due("lines", x.about(1), 12);
        due("p and n + p", x.near(1), 1 | 2 | 4 | 32);
        due("n + p", x.near(7), 128 | 64 | 16 | 8);
        due("too many", x.become(2), NONE);
        due("turned round", x.become(1), 8);
        due("lines", x.about(1), 28 - 12);
        due("near", x.near(0), 255 & ~(2 | 8 | 16));
        due("what 3", x.become(3), NONE);
        due("what -1", x.become(-1), NONE);
        due("acts", x.about(7), 3);
        x.begin(0, 0, NONE, NONE, 1);
        due("the scene stays", x.become(2), NONE);
        due("the scene stays", x.scene(0), 0);
        x.become(1);
        due("no scene", x.scene(0), -2);
        due("five places can't be twice", Bench.path(5).become(2), NONE);
        due("four can", Bench.path(4).become(2), 8);
        due("one twice", Bench.path(1).become(2), 2);
        due("without places", new SureHunters().become(0), NONE);
        due("without places", new SureHunters().become(1), NONE);
        due("without places", new SureHunters().become(2), NONE);
        SureHunters y = Bench.ring(5);
        due("all are left", y.become(0), 5);
        due("an act all the same", y.about(7), 1);
    }

    private static void undo() {
        promise = 36;
        SureHunters x = Bench.path(5);
        due("there is none", x.undo(), false);
        x.begin(0, 0, NONE, NONE, 4);
        x.hunt(1, NONE, NONE);
        x.run(3);
        x.toggle(0, 4);
        due("undo the line", x.undo(), true);
        due("lines", x.about(1), 4);
        due("the scene", x.scene(2) * 100 + x.scene(10) * 10 + x.scene(4), 311);
        due("games", x.fewest(0), 1);
        due("undo the runner", x.undo(), true);
        due("its place", x.scene(2), 4);
        due("its turn", x.scene(3), 1);
        due("undo the hunters", x.undo(), true);
        due("rounds", x.scene(4), 0);
        due("undo the scene", x.undo(), true);
        due("no scene", x.scene(2), -2);
        due("there is none", x.undo(), false);
        for (int i = 0; i < 13; i++) {
            x.toggle(0, 2 + i % 3);
        }
        due("twelve are kept", x.about(7), 12);
        for (int i = 0; i < 12; i++) {
            due("undo " + i, x.undo(), true);
        }
        due("the oldest is gone", x.undo(), false);
        due("its line stays", x.near(0), 1 | 2 | 4);
        x.become(1);
        x.undo();
        due("become is undone", x.near(0), 1 | 2 | 4);
        Bench.feed(x, "abc");
        x.become(0);
        x.undo();
        due("the tape stays", x.about(8), 3);
        x.end(0);
        x.toggle(0, 1);
        x.net();
        due("net() keeps none", x.undo(), false);
    }
}
