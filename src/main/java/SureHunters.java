import java.util.Arrays;
import java.util.NoSuchElementException;

/** Hunters against a runner on a net. The document's promises say what each call answers. */
public final class SureHunters {
    public static final int NONE = -1;

    /** Told where NONE already has a meaning of its own, or where nothing needs to be done. */
    private static final int OTHERWISE = -2;
    private static final int MOST_PLACES = 9;
    private static final int MOST_DOUBLED = 4;
    private static final int MOST_HUNTERS = 3;
    private static final int MOST_UNSEEN = 2;
    /** Stands in a row where there is no hunter: it comes behind all places, so rows keep their order. */
    private static final int NOBODY = 9;
    private static final int SPOTS = 10;
    private static final int ROWS = 219;
    private static final int MOST_ROWS = 165;
    /** The first row of so many hunters; the next number's first row ends them. */
    private static final int[] FIRST_ROW = {0, 0, 9, 54, 219};
    private static final int PLAIN = 0;
    private static final int LAZY = 1;
    private static final int SWIFT = 2;
    private static final int KINDS = 3;
    private static final int TRIAL_TURNS = 100;
    private static final int MOST_TURNS = 100;
    private static final int TAPE_BYTES = 600;
    private static final int FED_BYTES = 20;

    private final Script script;
    private final Net current;
    private final Net draft;
    private final Dismantling dismantling;
    private final Games games;
    private final Symmetries mirrors;
    private final Watch watch;
    private final Search search;
    private final Scene stage;
    private final Past past;
    /** Games of nets that are only tried; made when first asked for. */
    private Games tried;

    public SureHunters() {
        script = new Script();
        current = new Net();
        draft = new Net();
        dismantling = new Dismantling();
        games = new Games(current);
        mirrors = new Symmetries();
        watch = new Watch();
        search = new Search(current, games.rows);
        stage = new Scene();
        past = new Past();
        tried = null;
    }

    public int feed(int a, int b, int c, int d, int e) {
        if (script.length + FED_BYTES > TAPE_BYTES) {
            return NONE;
        }
        script.append(a);
        script.append(b);
        script.append(c);
        script.append(d);
        script.append(e);
        return script.length;
    }

    public int end(int n) {
        if (n < 0 || n > script.length) {
            return NONE;
        }
        script.length = n;
        return n;
    }

    public int net() {
        script.parse(draft);
        script.length = 0;
        if (script.fault != 0) {
            return NONE;
        }
        current.copyFrom(draft);
        stage.on = false;
        past.forget();
        renew();
        return current.count;
    }

    public int fault(int what) {
        if (what == 0) {
            return script.fault;
        }
        return what == 1 ? script.faultAt : NONE;
    }

    public int about(int what) {
        switch (what) {
            case 0:
                return current.count;
            case 1:
                return current.lines();
            case 2:
                return current.parts();
            case 3:
                return current.girth();
            case 4:
                return low();
            case 5:
                return Integer.bitCount(current.cover());
            case 6:
                return current.cover();
            case 7:
                return past.kept;
            case 8:
                return script.length;
            default:
                return NONE;
        }
    }

    public int near(int place) {
        return current.has(place) ? current.around(place) : NONE;
    }

    public int distance(int from, int to) throws NoSuchElementException {
        if (!current.has(from) || !current.has(to)) {
            throw new NoSuchElementException("no such place");
        }
        return current.steps(from, to);
    }

    public int corner(int place) throws NoSuchElementException {
        if (!current.has(place)) {
            throw new NoSuchElementException("no such place");
        }
        return Dismantling.cornerBy(current, current.all(), place);
    }

    public int goes(int i) {
        dismantling.settle(current);
        if (i == NONE) {
            return dismantling.gone;
        }
        return i >= 0 && i < dismantling.gone ? dismantling.turn[i] : NONE;
    }

    public int left() {
        dismantling.settle(current);
        return dismantling.stay;
    }

    public int image(int place) {
        if (!current.has(place)) {
            return NONE;
        }
        dismantling.settle(current);
        return dismantling.comesAtLast(place);
    }

    public int fewest(int kind) {
        for (int hunters = 1; hunters <= MOST_HUNTERS; hunters++) {
            Game game = games.solved(kind, hunters);
            if (game != null && game.turns != NONE) {
                return hunters;
            }
        }
        return NONE;
    }

    public int time(int kind, int hunters) {
        Game game = games.solved(kind, hunters);
        return game == null ? NONE : game.turns;
    }

    public int start(int kind, int hunters, int i) {
        Game game = games.solved(kind, hunters);
        return game == null ? NONE : games.rows.hunterAt(game.opening, i);
    }

    public int sure(int kind, int a, int b, int c) {
        int row = rowOf(a, b, c);
        Game game = row == NONE ? null : games.solved(kind, Rows.huntersOf(row));
        return game == null ? NONE : game.sureBits(row, current.count);
    }

    public int refusals(int kind, int hunters) {
        Game game = games.solved(kind, hunters);
        return game == null ? NONE : game.refused;
    }

    public int refusal(int kind, int hunters, int i, int what) {
        Game game = games.solved(kind, hunters);
        if (game == null || i < 0 || i >= game.refused) {
            return NONE;
        }
        int couple = games.refusedCouple(game, i);
        if (couple == NONE) {
            return NONE;
        }
        if (what == 0) {
            return couple % MOST_PLACES;
        }
        if (what < 1 || what > MOST_HUNTERS) {
            return NONE;
        }
        return games.rows.hunterAt(couple / MOST_PLACES, what - 1);
    }

    public int trial(int kind, int hunters, int seed) {
        Game game = games.solved(kind, hunters);
        return game == null ? NONE : games.tryOut(game, seed);
    }

    public int helps(int kind, int hunters) {
        Game game = hunters < MOST_HUNTERS ? games.solved(kind, hunters) : null;
        if (game == null) {
            return NONE;
        }
        if (game.turns != NONE) {
            return OTHERWISE;
        }
        if (game.helping == OTHERWISE) {
            game.helping = helpingLine(kind, hunters);
        }
        return game.helping;
    }

    public int symmetries() {
        return mirrors.howMany(current);
    }

    public int alike(int place) {
        return current.has(place) ? mirrors.leastAlike(current, place) : NONE;
    }

    public int guard(int set) {
        if (!isSet(set)) {
            return NONE;
        }
        watch.settle(current, set);
        return watch.couples();
    }

    public int guards(int set, int hunter, int runner) {
        if (!isSet(set) || !current.has(hunter) || !current.has(runner)) {
            return NONE;
        }
        watch.settle(current, set);
        return watch.isCouple(hunter, runner) ? 1 : 0;
    }

    public int sweep(int hunters) {
        return search.roundsOf(hunters);
    }

    public int swept(int hunters, int r, int i) {
        int row = search.rowIn(hunters, r);
        return row == NONE ? NONE : games.rows.hunterAt(row, i);
    }

    public int begin(int kind, int a, int b, int c, int runner) {
        int row = rowOf(a, b, c);
        if (row == NONE || kind < PLAIN || kind >= KINDS || !current.has(runner)) {
            return NONE;
        }
        past.keep(current, stage);
        stage.open(kind, row, runner);
        return Rows.huntersOf(row);
    }

    public int scene(int what) {
        if (!stage.on) {
            return OTHERWISE;
        }
        switch (what) {
            case 0:
                return stage.kind;
            case 1:
                return Rows.huntersOf(stage.row);
            case 2:
                return stage.runner;
            case 3:
                return stage.runnersTurn ? 1 : 0;
            case 4:
                return stage.rounds;
            case 5:
                return isCaught() ? 1 : 0;
            case 6:
                return stageWorth();
            default:
                int place = what < 10 ? NONE : games.rows.hunterAt(stage.row, what - 10);
                return place == NONE ? OTHERWISE : place;
        }
    }

    public int best(int i) {
        if (!stage.on || isCaught()) {
            return NONE;
        }
        Game game = stageGame();
        if (game == null) {
            return NONE;
        }
        if (stage.runnersTurn) {
            return i == 0 ? games.bestPlace(game, stage.row, stage.runner) : NONE;
        }
        if (i < 0 || i >= Rows.huntersOf(stage.row)) {
            return NONE;
        }
        return games.rows.hunterAt(games.bestRow(game, stage.row, stage.runner), i);
    }

    public int safe() {
        Game game = stage.on && stage.runnersTurn && !isCaught() ? stageGame() : null;
        return game == null ? NONE : games.safeBits(game, stage.row, stage.runner);
    }

    public boolean hunt(int a, int b, int c) {
        int row = rowOf(a, b, c);
        if (row == NONE || !stage.on || stage.runnersTurn || isCaught()) {
            return false;
        }
        if (!games.rows.leads(stage.row, row, stage.kind == LAZY)) {
            return false;
        }
        past.keep(current, stage);
        stage.huntersGo(row);
        return true;
    }

    public boolean run(int place) {
        if (!current.has(place) || !stage.on || !stage.runnersTurn || isCaught()) {
            return false;
        }
        if ((games.reach(stage.kind, stage.row, stage.runner) >> place & 1) == 0) {
            return false;
        }
        past.keep(current, stage);
        stage.runnerGoes(place);
        return true;
    }

    public int play(int n) {
        Game game = n >= 1 && n <= MOST_TURNS && stage.on && !isCaught() ? stageGame() : null;
        if (game == null) {
            return NONE;
        }
        past.keep(current, stage);
        int done = 0;
        for (int i = 0; i < n && !isCaught(); i++) {
            playTurn(game);
            done++;
        }
        return done;
    }

    public int toggle(int one, int other) {
        if (!current.has(one) || !current.has(other) || one == other) {
            return NONE;
        }
        draft.copyFrom(current);
        draft.flip(one, other);
        takeDraft();
        return current.joined(one, other) ? 1 : 0;
    }

    public int become(int what) {
        if (current.count == 0) {
            return NONE;
        }
        if (what == 0) {
            dismantling.settle(current);
            draft.takePart(current, dismantling.stay);
        } else if (what == 1) {
            draft.takeTurned(current);
        } else if (what == 2 && current.count <= MOST_DOUBLED) {
            draft.takeTwice(current);
        } else {
            return NONE;
        }
        takeDraft();
        return current.count;
    }

    public boolean undo() {
        if (!past.takeBack(draft, stage)) {
            return false;
        }
        if (!current.sameAs(draft)) {
            current.copyFrom(draft);
            renew();
        }
        return true;
    }

    /** The draft becomes the net, as an act that can be undone. */
    private void takeDraft() {
        past.keep(current, stage);
        current.copyFrom(draft);
        stage.on = false;
        renew();
    }

    /** What was found out of the former net holds no more. */
    private void renew() {
        dismantling.settled = false;
        games.renew();
        search.renew();
    }

    private int low() {
        if (current.parts() != 1) {
            return 0;
        }
        int ring = current.girth();
        if (ring == NONE || ring > 4) {
            return Math.max(1, current.fewestLines());
        }
        dismantling.settle(current);
        return Integer.bitCount(dismantling.stay) > 1 ? 2 : 1;
    }

    /** The row of up to three hunters, NONE standing for none behind them; NONE if it can't be. */
    private int rowOf(int a, int b, int c) {
        if (!current.has(a)) {
            return NONE;
        }
        if (b == NONE) {
            return c == NONE ? games.rows.numberOf(a, NOBODY, NOBODY) : NONE;
        }
        if (!current.has(b)) {
            return NONE;
        }
        if (c == NONE) {
            return games.rows.numberOf(a, b, NOBODY);
        }
        return current.has(c) ? games.rows.numberOf(a, b, c) : NONE;
    }

    private boolean isSet(int set) {
        return set > 0 && (set & ~current.all()) == 0;
    }

    private int helpingLine(int kind, int hunters) {
        if (tried == null) {
            tried = new Games(draft);
        }
        draft.copyFrom(current);
        for (int p = 0; p < current.count; p++) {
            for (int q = p + 1; q < current.count; q++) {
                draft.flip(p, q);
                tried.renew();
                Game game = tried.solved(kind, hunters);
                draft.flip(p, q);
                if (game != null && game.turns != NONE) {
                    return 16 * p + q;
                }
            }
        }
        return NONE;
    }

    private boolean isCaught() {
        return games.rows.standsAt(stage.row, stage.runner);
    }

    private Game stageGame() {
        return games.solved(stage.kind, Rows.huntersOf(stage.row));
    }

    private int stageWorth() {
        Game game = games.solved(stage.kind, Rows.huntersOf(stage.row));
        if (game == null) {
            return NONE;
        }
        if (stage.runnersTurn) {
            return games.runnersWorth(game, stage.row, stage.runner);
        }
        return game.worthAt(stage.row, stage.runner);
    }

    private void playTurn(Game game) {
        if (stage.runnersTurn) {
            stage.runnerGoes(games.bestPlace(game, stage.row, stage.runner));
        } else {
            stage.huntersGo(games.bestRow(game, stage.row, stage.runner));
        }
    }

    /** Places, and of each those near it as bits (itself among them). */
    private static final class Net {
        private int count;
        private final int[] nearBits = new int[MOST_PLACES];

        private void clear() {
            count = 0;
            Arrays.fill(nearBits, 0);
        }

        private void copyFrom(Net other) {
            count = other.count;
            for (int i = 0; i < MOST_PLACES; i++) {
                nearBits[i] = other.nearBits[i];
            }
        }

        private boolean sameAs(Net other) {
            boolean same = count == other.count;
            for (int i = 0; i < MOST_PLACES; i++) {
                same = same && nearBits[i] == other.nearBits[i];
            }
            return same;
        }

        private boolean has(int place) {
            return place >= 0 && place < count && place < MOST_PLACES;
        }

        private int all() {
            return (1 << count) - 1;
        }

        private void addPlace() {
            if (count < MOST_PLACES) {
                nearBits[count] = 1 << count;
                count++;
            }
        }

        private int around(int place) {
            return place >= 0 && place < MOST_PLACES ? nearBits[place] : 0;
        }

        private boolean joined(int one, int other) {
            return one != other && has(other) && (around(one) >> other & 1) == 1;
        }

        private void flip(int one, int other) {
            if (one != other && has(one) && has(other)) {
                nearBits[one] ^= 1 << other;
                nearBits[other] ^= 1 << one;
            }
        }

        private int linesAt(int place) {
            return Math.max(0, Integer.bitCount(around(place)) - 1);
        }

        /** All places near one of those told. */
        private int widen(int places) {
            int wide = 0;
            for (int p = 0; p < MOST_PLACES; p++) {
                if ((places >> p & 1) == 1) {
                    wide |= nearBits[p];
                }
            }
            return wide;
        }

        private int lines() {
            int ends = 0;
            for (int p = 0; p < count; p++) {
                ends += linesAt(p);
            }
            return ends / 2;
        }

        private int fewestLines() {
            int fewest = MOST_PLACES;
            for (int p = 0; p < count; p++) {
                fewest = Math.min(fewest, linesAt(p));
            }
            return fewest;
        }

        private int parts() {
            int parts = 0;
            int known = 0;
            for (int p = 0; p < count; p++) {
                if ((known >> p & 1) == 0) {
                    parts++;
                    known |= partOf(p);
                }
            }
            return parts;
        }

        private int partOf(int place) {
            int part = 1 << place;
            for (int i = 0; i < count; i++) {
                part = widen(part);
            }
            return part;
        }

        private int steps(int from, int to) {
            int reached = 1 << from;
            for (int steps = 0; steps < count; steps++) {
                if ((reached >> to & 1) == 1) {
                    return steps;
                }
                reached = widen(reached);
            }
            return NONE;
        }

        /** A ring through a line is that line and a shortest way between its ends without it. */
        private int girth() {
            int least = NONE;
            for (int p = 0; p < count; p++) {
                for (int q = p + 1; q < count; q++) {
                    if (joined(p, q)) {
                        flip(p, q);
                        int way = steps(p, q);
                        flip(p, q);
                        if (way != NONE && (least == NONE || way + 1 < least)) {
                            least = way + 1;
                        }
                    }
                }
            }
            return least;
        }

        private int cover() {
            int best = all();
            for (int set = 0; set <= all(); set++) {
                if (widen(set) == all() && isBetterCover(set, best)) {
                    best = set;
                }
            }
            return best;
        }

        /** Of like ones the first as a rising row has the lowest place in which they differ. */
        private static boolean isBetterCover(int set, int best) {
            int more = Integer.bitCount(set) - Integer.bitCount(best);
            int unlike = set ^ best;
            return more < 0 || more == 0 && (set & unlike & -unlike) != 0;
        }

        private void takePart(Net other, int places) {
            clear();
            for (int p = 0; p < other.count; p++) {
                if ((places >> p & 1) == 1) {
                    addPlace();
                }
            }
            for (int p = 0; p < other.count; p++) {
                for (int q = p + 1; q < other.count; q++) {
                    if ((places >> p & places >> q & 1) == 1 && other.joined(p, q)) {
                        flip(countBelow(places, p), countBelow(places, q));
                    }
                }
            }
        }

        private static int countBelow(int places, int place) {
            return Integer.bitCount(places & (1 << place) - 1);
        }

        private void takeTurned(Net other) {
            copyFrom(other);
            for (int p = 0; p < count; p++) {
                for (int q = p + 1; q < count; q++) {
                    flip(p, q);
                }
            }
        }

        private void takeTwice(Net other) {
            int half = other.count;
            clear();
            for (int p = 0; p < 2 * half; p++) {
                addPlace();
            }
            for (int p = 0; p < half; p++) {
                flip(p, half + p);
                for (int q = p + 1; q < half; q++) {
                    if (other.joined(p, q)) {
                        flip(p, q);
                        flip(half + p, half + q);
                    }
                }
            }
        }
    }

    /** The tape, and how it is read as a net. */
    private static final class Script {
        private static final int TEXT_END = 0;
        private static final int NO_TOKEN = 1;
        private static final int SIGN = 2;
        private static final int PLACE_WORD = 3;
        private static final int LINE_WORD = 4;
        private static final int NAME = 5;
        private static final int LONGEST_WORD = 6;

        private final int[] bytes = new int[TAPE_BYTES];
        private int length;
        private int fault;
        private int faultAt = NONE;
        /** The token that is looked at: what it is, its first byte, the first byte behind it. */
        private int token;
        private int from;
        private int behind;
        private final int[] nameFrom = new int[MOST_PLACES];
        private final int[] nameLength = new int[MOST_PLACES];

        private void append(int number) {
            for (int shift = 24; shift >= 0; shift -= 8) {
                if (length >= 0 && length < TAPE_BYTES) {
                    bytes[length] = number >>> shift & 255;
                    length++;
                }
            }
        }

        private void parse(Net told) {
            told.clear();
            fault = 0;
            faultAt = NONE;
            behind = 0;
            advance();
            for (int i = 0; i <= TAPE_BYTES && fault == 0 && token != TEXT_END; i++) {
                if (token == PLACE_WORD) {
                    parsePlace(told);
                } else if (token == LINE_WORD) {
                    parseLine(told);
                } else {
                    refuseToken();
                }
            }
        }

        private void parsePlace(Net told) {
            if (told.count >= MOST_PLACES) {
                refuse(5);
                return;
            }
            advance();
            if (token != NAME) {
                refuseToken();
            } else if (placeNamed(told) != NONE) {
                refuse(3);
            } else {
                nameFrom[told.count] = from;
                nameLength[told.count] = behind - from;
                told.addPlace();
                passSign();
            }
        }

        private void parseLine(Net told) {
            advance();
            int one = parseEnd(told);
            if (fault != 0) {
                return;
            }
            advance();
            int other = parseEnd(told);
            if (fault != 0) {
                return;
            }
            if (one == other) {
                refuse(3);
            } else if (told.joined(one, other)) {
                refuse(4);
            } else {
                told.flip(one, other);
                passSign();
            }
        }

        /** The place whose name is looked at, as an end of a line. */
        private int parseEnd(Net told) {
            if (token != NAME) {
                refuseToken();
                return NONE;
            }
            int place = placeNamed(told);
            if (place == NONE) {
                refuse(3);
            }
            return place;
        }

        private void passSign() {
            advance();
            if (token == SIGN) {
                advance();
            } else {
                refuseToken();
            }
        }

        private void refuseToken() {
            refuse(token == NO_TOKEN ? 1 : 2);
        }

        private void refuse(int what) {
            fault = what;
            faultAt = from;
        }

        private void advance() {
            from = behind;
            for (int i = 0; i < TAPE_BYTES && isBlank(byteAt(from)); i++) {
                from++;
            }
            int first = byteAt(from);
            behind = from + 1;
            if (first == NONE) {
                behind = from;
                token = TEXT_END;
            } else if (first == ';') {
                token = SIGN;
            } else if (isLetter(first)) {
                for (int i = 0; i < TAPE_BYTES && isLetter(byteAt(behind)); i++) {
                    behind++;
                }
                token = wordToken();
            } else {
                token = NO_TOKEN;
            }
        }

        private int wordToken() {
            if (behind - from > LONGEST_WORD) {
                return NO_TOKEN;
            }
            if (isWord("place")) {
                return PLACE_WORD;
            }
            return isWord("line") ? LINE_WORD : NAME;
        }

        private boolean isWord(String word) {
            boolean same = word.length() == behind - from;
            for (int i = 0; i < word.length(); i++) {
                same = same && word.charAt(i) == byteAt(from + i);
            }
            return same;
        }

        private int placeNamed(Net told) {
            for (int p = 0; p < told.count && p < MOST_PLACES; p++) {
                if (isNameOf(p)) {
                    return p;
                }
            }
            return NONE;
        }

        private boolean isNameOf(int place) {
            boolean same = nameLength[place] == behind - from;
            for (int i = 0; same && i < LONGEST_WORD && i < nameLength[place]; i++) {
                same = byteAt(nameFrom[place] + i) == byteAt(from + i);
            }
            return same;
        }

        private int byteAt(int i) {
            return i >= 0 && i < length && i < TAPE_BYTES ? bytes[i] : NONE;
        }

        private static boolean isBlank(int sign) {
            return sign == 32 || sign == 10;
        }

        private static boolean isLetter(int sign) {
            return sign >= 'a' && sign <= 'z';
        }
    }

    /** Corners taken away one by one. */
    private static final class Dismantling {
        private boolean settled;
        private int stay;
        private int gone;
        private final int[] turn = new int[MOST_PLACES];
        private final int[] comesTo = new int[MOST_PLACES];

        private void settle(Net net) {
            if (settled) {
                return;
            }
            stay = net.all();
            gone = 0;
            for (int i = 0; i < MOST_PLACES; i++) {
                takeLeastCorner(net);
            }
            settled = true;
        }

        private void takeLeastCorner(Net net) {
            for (int p = 0; p < net.count && p < MOST_PLACES; p++) {
                int by = (stay >> p & 1) == 1 ? cornerBy(net, stay, p) : NONE;
                if (by != NONE && gone < MOST_PLACES) {
                    turn[gone] = p;
                    gone++;
                    comesTo[p] = by;
                    stay &= ~(1 << p);
                    return;
                }
            }
        }

        /** The least place by which one is a corner among those that are there; NONE if it is none. */
        private static int cornerBy(Net net, int there, int place) {
            int seen = net.around(place) & there;
            for (int q = 0; q < net.count; q++) {
                if (q != place && (there >> q & 1) == 1 && (seen & ~net.around(q)) == 0) {
                    return q;
                }
            }
            return NONE;
        }

        private int comesAtLast(int place) {
            int at = place;
            for (int i = 0; i < MOST_PLACES; i++) {
                if (at >= 0 && at < MOST_PLACES && (stay >> at & 1) == 0) {
                    at = comesTo[at];
                }
            }
            return at;
        }
    }

    /** Every row of 1 .. 3 hunters on nine places, numbered as in a dictionary, and their steps on a net. */
    private static final class Rows {
        private final int[] spots = new int[ROWS * MOST_HUNTERS];
        private final int[] standing = new int[ROWS];
        private final int[] numbers = new int[SPOTS * SPOTS * SPOTS];
        private final int[] nearSpots = new int[SPOTS * SPOTS];
        private final int[] nearCount = new int[SPOTS];
        /** The rows to which the latest stepFrom() led, each once. */
        private final int[] found = new int[MOST_ROWS];
        private int foundCount;
        private final int[] seen = new int[ROWS];
        private int stamp;

        private Rows() {
            Arrays.fill(numbers, NONE);
            int row = 0;
            for (int hunters = 1; hunters <= MOST_HUNTERS; hunters++) {
                for (int a = 0; a < MOST_PLACES; a++) {
                    int endB = hunters > 1 ? MOST_PLACES - 1 : NOBODY;
                    for (int b = hunters > 1 ? a : NOBODY; b <= endB; b++) {
                        int endC = hunters > 2 ? MOST_PLACES - 1 : NOBODY;
                        for (int c = hunters > 2 ? b : NOBODY; c <= endC; c++) {
                            tell(row, a, b, c);
                            row++;
                        }
                    }
                }
            }
            nearSpots[NOBODY * SPOTS] = NOBODY;
            nearCount[NOBODY] = 1;
        }

        private void tell(int row, int a, int b, int c) {
            if (row < 0 || row >= ROWS) {
                return;
            }
            spots[row * MOST_HUNTERS] = a;
            spots[row * MOST_HUNTERS + 1] = b;
            spots[row * MOST_HUNTERS + 2] = c;
            standing[row] = (1 << a | 1 << b | 1 << c) & (1 << NOBODY) - 1;
            tellNumber(a, b, c, row);
            tellNumber(a, c, b, row);
            tellNumber(b, a, c, row);
            tellNumber(b, c, a, row);
            tellNumber(c, a, b, row);
            tellNumber(c, b, a, row);
        }

        private void tellNumber(int a, int b, int c, int row) {
            if (isSpot(a) && isSpot(b) && isSpot(c)) {
                numbers[(a * SPOTS + b) * SPOTS + c] = row;
            }
        }

        private static boolean isSpot(int spot) {
            return spot >= 0 && spot < SPOTS;
        }

        /** The row of hunters in any order, with NOBODY for each that is not. */
        private int numberOf(int a, int b, int c) {
            boolean can = isSpot(a) && isSpot(b) && isSpot(c);
            return can ? numbers[(a * SPOTS + b) * SPOTS + c] : NONE;
        }

        private static int huntersOf(int row) {
            if (row < FIRST_ROW[2]) {
                return 1;
            }
            return row < FIRST_ROW[3] ? 2 : 3;
        }

        private int spotAt(int row, int i) {
            boolean can = row >= 0 && row < ROWS && i >= 0 && i < MOST_HUNTERS;
            return can ? spots[row * MOST_HUNTERS + i] : NOBODY;
        }

        private int hunterAt(int row, int i) {
            int spot = spotAt(row, i);
            return spot == NOBODY ? NONE : spot;
        }

        private int standBits(int row) {
            return row >= 0 && row < ROWS ? standing[row] : 0;
        }

        private boolean standsAt(int row, int place) {
            return place >= 0 && place < MOST_PLACES && (standBits(row) >> place & 1) == 1;
        }

        private void learn(Net net) {
            for (int p = 0; p < MOST_PLACES; p++) {
                nearCount[p] = 0;
                for (int q = 0; q < MOST_PLACES; q++) {
                    if ((net.around(p) >> q & 1) == 1) {
                        nearSpots[p * SPOTS + nearCount[p]] = q;
                        nearCount[p]++;
                    }
                }
            }
        }

        private void stepFrom(int row, boolean lazy) {
            stamp++;
            foundCount = 0;
            int a = spotAt(row, 0);
            int b = spotAt(row, 1);
            int c = spotAt(row, 2);
            if (lazy) {
                stepOne(a, b, c);
                stepOne(b, a, c);
                stepOne(c, a, b);
                return;
            }
            for (int i = 0; i < nearCount[a]; i++) {
                for (int j = 0; j < nearCount[b]; j++) {
                    stepOne(c, nearSpots[a * SPOTS + i], nearSpots[b * SPOTS + j]);
                }
            }
        }

        private void stepOne(int mover, int other, int third) {
            for (int i = 0; i < nearCount[mover]; i++) {
                note(nearSpots[mover * SPOTS + i], other, third);
            }
        }

        private void note(int a, int b, int c) {
            int code = (a * SPOTS + b) * SPOTS + c;
            int row = code >= 0 && code < numbers.length ? numbers[code] : NONE;
            if (row >= 0 && row < ROWS && seen[row] != stamp && foundCount < MOST_ROWS) {
                seen[row] = stamp;
                found[foundCount] = row;
                foundCount++;
            }
        }

        private boolean isFound(int row) {
            return row >= 0 && row < ROWS && seen[row] == stamp;
        }

        private boolean leads(int from, int to, boolean lazy) {
            stepFrom(from, lazy);
            return isFound(to);
        }
    }

    /** A kind with so many hunters: what each couple of a row and a runner's place is worth. */
    private static final class Game {
        private final int kind;
        /** Its rows: from the first one to the one behind the last. */
        private final int first;
        private final int past;
        private boolean ready;
        /** At the hunters' turn; made when the game is first solved, as many never are. */
        private int[] worths;
        private int opening;
        private int turns;
        private int refused;
        /** What helps() found; OTHERWISE while it has not looked. */
        private int helping;

        private Game(int kind, int first, int past) {
            this.kind = kind;
            this.first = first;
            this.past = past;
        }

        private void clear() {
            if (worths == null) {
                worths = new int[Math.max(0, past - first) * MOST_PLACES];
            }
            Arrays.fill(worths, NONE);
            helping = OTHERWISE;
        }

        private int indexOf(int row, int place) {
            boolean can = row >= first && row < past && place >= 0 && place < MOST_PLACES;
            return can ? (row - first) * MOST_PLACES + place : NONE;
        }

        private int worthAt(int row, int place) {
            int i = indexOf(row, place);
            return i >= 0 && worths != null && i < worths.length ? worths[i] : NONE;
        }

        private void setWorth(int row, int places, int worth) {
            for (int p = 0; p < MOST_PLACES; p++) {
                int i = indexOf(row, p);
                if ((places >> p & 1) == 1 && i >= 0 && worths != null && i < worths.length) {
                    worths[i] = worth;
                }
            }
        }

        private int sureBits(int row, int count) {
            int bits = 0;
            for (int p = 0; p < count; p++) {
                if (worthAt(row, p) != NONE) {
                    bits |= 1 << p;
                }
            }
            return bits;
        }
    }

    /** The games of a net, solved when they are first asked for. */
    private static final class Games {
        /** Ranks what is not sure above each worth that can be. */
        private static final int UNSURE = 1000000;
        /** Each round of solving but the last finds a couple at least. */
        private static final int MOST_ROUNDS = MOST_ROWS * MOST_PLACES + 1;

        private final Net net;
        private final Rows rows = new Rows();
        private final Game[] tables = new Game[KINDS * MOST_HUNTERS];
        /** By row: the runner's places that are sure at the hunters' turn, at the runner's, and newly. */
        private final int[] won = new int[ROWS];
        private final int[] held = new int[ROWS];
        private final int[] news = new int[ROWS];

        private Games(Net net) {
            this.net = net;
            for (int i = 0; i < tables.length; i++) {
                int hunters = i % MOST_HUNTERS + 1;
                tables[i] = new Game(i / MOST_HUNTERS, FIRST_ROW[hunters], FIRST_ROW[hunters + 1]);
            }
        }

        private void renew() {
            rows.learn(net);
            for (int i = 0; i < tables.length; i++) {
                tables[i].ready = false;
            }
        }

        /** Null if there is no such game, or there are no places. */
        private Game solved(int kind, int hunters) {
            boolean can = kind >= PLAIN && kind < KINDS && hunters >= 1 && hunters <= MOST_HUNTERS;
            if (!can || net.count == 0) {
                return null;
            }
            Game game = tables[kind * MOST_HUNTERS + hunters - 1];
            if (!game.ready) {
                solve(game);
                findOpening(game);
                game.ready = true;
            }
            return game;
        }

        private void solve(Game game) {
            game.clear();
            for (int row = game.first; row < game.past; row++) {
                won[row] = isOnNet(row) ? rows.standBits(row) : 0;
                held[row] = 0;
                news[row] = 0;
                game.setWorth(row, won[row], 0);
            }
            boolean more = true;
            for (int round = 1; round <= MOST_ROUNDS && more; round++) {
                spreadHeld(game);
                more = takeNews(game, round);
            }
        }

        private boolean isOnNet(int row) {
            return (rows.standBits(row) & ~net.all()) == 0;
        }

        /** Steps can be gone both ways, so what a row newly holds is news for the rows it leads to. */
        private void spreadHeld(Game game) {
            for (int row = game.first; row < game.past; row++) {
                int fresh = won[row] == held[row] ? 0 : holds(game, row) & ~held[row];
                if (fresh != 0) {
                    held[row] |= fresh;
                    rows.stepFrom(row, game.kind == LAZY);
                    for (int i = 0; i < rows.foundCount; i++) {
                        news[rows.found[i]] |= fresh;
                    }
                }
            }
        }

        private int holds(Game game, int row) {
            int bits = rows.standBits(row);
            for (int p = 0; p < net.count; p++) {
                if ((won[row] >> p & 1) == 1 && (reach(game.kind, row, p) & ~won[row]) == 0) {
                    bits |= 1 << p;
                }
            }
            return bits;
        }

        /** Whether another round may find more: something is new, and not all is won yet. */
        private boolean takeNews(Game game, int round) {
            boolean more = false;
            boolean open = false;
            for (int row = game.first; row < game.past; row++) {
                int fresh = news[row] & ~won[row];
                news[row] = 0;
                if (fresh != 0) {
                    won[row] |= fresh;
                    game.setWorth(row, fresh, round);
                    more = true;
                }
                open = open || isOnNet(row) && won[row] != net.all();
            }
            return more && open;
        }

        private void findOpening(Game game) {
            game.opening = NONE;
            game.refused = 0;
            int least = UNSURE;
            for (int row = game.first; row < game.past; row++) {
                if (isOnNet(row)) {
                    int rank = greatestRank(game, row, net.all());
                    game.refused += net.count - Integer.bitCount(won[row]);
                    if (game.opening == NONE || rank < least) {
                        game.opening = row;
                        least = rank;
                    }
                }
            }
            game.turns = worthOf(least);
        }

        private static int rankOf(int worth) {
            return worth == NONE ? UNSURE : worth;
        }

        private static int worthOf(int rank) {
            return rank == UNSURE ? NONE : rank;
        }

        private int greatestRank(Game game, int row, int places) {
            int greatest = 0;
            for (int p = 0; p < net.count; p++) {
                if ((places >> p & 1) == 1) {
                    greatest = Math.max(greatest, rankOf(game.worthAt(row, p)));
                }
            }
            return greatest;
        }

        /** Where the runner can go from a place at which it isn't caught, as bits. */
        private int reach(int kind, int row, int place) {
            int close = net.around(place);
            return kind == SWIFT ? close | net.widen(close & ~rows.standBits(row)) : close;
        }

        private int runnersRank(Game game, int row, int place) {
            if (rows.standsAt(row, place)) {
                return 0;
            }
            return greatestRank(game, row, reach(game.kind, row, place));
        }

        private int runnersWorth(Game game, int row, int place) {
            return worthOf(runnersRank(game, row, place));
        }

        private int bestRow(Game game, int row, int place) {
            rows.stepFrom(row, game.kind == LAZY);
            int best = row;
            int least = runnersRank(game, row, place);
            for (int i = 0; i < rows.foundCount; i++) {
                int next = rows.found[i];
                int rank = runnersRank(game, next, place);
                if (rank < least || rank == least && next < best) {
                    best = next;
                    least = rank;
                }
            }
            return best;
        }

        private int bestPlace(Game game, int row, int place) {
            int bits = reach(game.kind, row, place);
            int best = place;
            int greatest = NONE;
            for (int p = 0; p < net.count; p++) {
                int rank = rankOf(game.worthAt(row, p));
                if ((bits >> p & 1) == 1 && rank > greatest) {
                    best = p;
                    greatest = rank;
                }
            }
            return best;
        }

        private int safeBits(Game game, int row, int place) {
            return reach(game.kind, row, place) & ~game.sureBits(row, net.count);
        }

        /** The i-th refusal as MOST_PLACES * row + the runner's place. */
        private int refusedCouple(Game game, int i) {
            int ahead = i;
            for (int row = game.first; row < game.past; row++) {
                for (int p = 0; p < net.count && isOnNet(row); p++) {
                    if (game.worthAt(row, p) == NONE) {
                        if (ahead == 0) {
                            return MOST_PLACES * row + p;
                        }
                        ahead--;
                    }
                }
            }
            return NONE;
        }

        private int tryOut(Game game, int firstSeed) {
            int seed = nextSeed(firstSeed);
            int row = game.opening;
            int place = drawn(net.all(), seed);
            if (rows.standsAt(row, place)) {
                return 0;
            }
            for (int turn = 1; turn <= TRIAL_TURNS; turn++) {
                row = bestRow(game, row, place);
                if (rows.standsAt(row, place)) {
                    return turn;
                }
                seed = nextSeed(seed);
                place = drawn(reach(game.kind, row, place), seed);
                if (rows.standsAt(row, place)) {
                    return turn;
                }
            }
            return OTHERWISE;
        }

        private static int nextSeed(int seed) {
            return seed * 1103515245 + 12345;
        }

        private static int drawn(int places, int seed) {
            int count = Integer.bitCount(places);
            int ahead = count == 0 ? 0 : (seed >>> 16) % count;
            for (int p = 0; p < MOST_PLACES; p++) {
                if ((places >> p & 1) == 1) {
                    if (ahead == 0) {
                        return p;
                    }
                    ahead--;
                }
            }
            return NONE;
        }
    }

    /** Places renumbered so that lines are where they were. */
    private static final class Symmetries {
        /** Places in the order in which they get their new numbers, and these numbers. */
        private final int[] order = new int[MOST_PLACES];
        private final int[] numbers = new int[MOST_PLACES];

        /** Of those that keep all places ahead, each image of the next place has as many as keep it, too. */
        private int howMany(Net net) {
            int product = 1;
            for (int p = 0; p < net.count && p < MOST_PLACES; p++) {
                order[p] = p;
            }
            for (int p = 0; p < net.count && p < MOST_PLACES; p++) {
                product *= imagesOf(net, p);
                numbers[p] = p;
            }
            return product;
        }

        private int imagesOf(Net net, int place) {
            int images = 0;
            for (int q = 0; q < net.count; q++) {
                if (canBe(net, place, q)) {
                    images++;
                }
            }
            return images;
        }

        private int leastAlike(Net net, int place) {
            int i = 1;
            order[0] = place;
            for (int p = 0; p < net.count; p++) {
                if (p != place && i < MOST_PLACES) {
                    order[i] = p;
                    i++;
                }
            }
            for (int q = 0; q < place; q++) {
                if (canBe(net, 0, q)) {
                    return q;
                }
            }
            return place;
        }

        /** Whether the i-th in order can get a number, behind those ahead of it that have theirs. */
        private boolean canBe(Net net, int i, int number) {
            if (i < 0 || i >= MOST_PLACES || !fits(net, order, numbers, i, number)) {
                return false;
            }
            numbers[i] = number;
            return completes(net, order, numbers, i + 1);
        }

        private static boolean completes(Net net, int[] order, int[] numbers, int i) {
            if (i >= net.count || i >= MOST_PLACES) {
                return true;
            }
            for (int q = 0; q < net.count; q++) {
                if (fits(net, order, numbers, i, q)) {
                    numbers[i] = q;
                    if (completes(net, order, numbers, i + 1)) {
                        return true;
                    }
                }
            }
            return false;
        }

        private static boolean fits(Net net, int[] order, int[] numbers, int i, int number) {
            int place = order[i];
            boolean fit = net.linesAt(place) == net.linesAt(number);
            for (int j = 0; fit && j < i; j++) {
                fit = numbers[j] != number
                        && net.joined(order[j], place) == net.joined(numbers[j], number);
            }
            return fit;
        }
    }

    /** A set of places that one hunter guards. */
    private static final class Watch {
        /** By the hunter's place: the runner's places of the couples, as bits. */
        private final int[] kept = new int[MOST_PLACES];

        private void settle(Net net, int set) {
            int outside = net.all() & ~set;
            for (int h = 0; h < MOST_PLACES; h++) {
                kept[h] = (set >> h & 1) == 1 ? outside : 0;
            }
            boolean fewer = true;
            for (int i = 0; i <= MOST_PLACES * MOST_PLACES && fewer; i++) {
                fewer = dropCouples(net, set);
            }
        }

        private boolean dropCouples(Net net, int set) {
            boolean dropped = false;
            for (int h = 0; h < MOST_PLACES; h++) {
                for (int r = 0; r < net.count; r++) {
                    if ((kept[h] >> r & 1) == 1 && !answers(net, set, h, r)) {
                        kept[h] &= ~(1 << r);
                        dropped = true;
                    }
                }
            }
            return dropped;
        }

        private boolean answers(Net net, int set, int hunter, int runner) {
            int goals = net.around(runner);
            int steps = net.around(hunter) & set;
            for (int to = 0; to < MOST_PLACES; to++) {
                if ((steps >> to & 1) == 1 && (goals & ~set & ~kept[to]) == 0
                        && (goals & set & ~net.around(to)) == 0) {
                    return true;
                }
            }
            return false;
        }

        private int couples() {
            int sum = 0;
            for (int h = 0; h < MOST_PLACES; h++) {
                sum += Integer.bitCount(kept[h]);
            }
            return sum;
        }

        private boolean isCouple(int hunter, int runner) {
            return hunter >= 0 && hunter < MOST_PLACES && (kept[hunter] >> runner & 1) == 1;
        }
    }

    /** A runner that nobody sees: a search through states of a row and the dark places, round by round. */
    private static final class Search {
        private static final int MOST_ROUNDS = 60;
        private static final int SETS = 512;
        private static final int STATES = 45 * SETS;
        private static final int UNSEEN = -1;
        private static final int OPENING = -2;

        private final Net net;
        private final Rows rows;
        private final boolean[] ready = new boolean[MOST_UNSEEN];
        private final int[] rounds = new int[MOST_UNSEEN];
        private final int[] path = new int[MOST_UNSEEN * (MOST_ROUNDS + 1)];
        /** Of each state the one ahead of it; made with what follows when first needed, as they are large. */
        private int[] ahead;
        private int[] queue;
        private int[] wide;
        private int queued;

        private Search(Net net, Rows rows) {
            this.net = net;
            this.rows = rows;
        }

        private void renew() {
            ready[0] = false;
            ready[1] = false;
        }

        private int roundsOf(int hunters) {
            if (hunters < 1 || hunters > MOST_UNSEEN || net.count == 0) {
                return NONE;
            }
            if (!ready[hunters - 1]) {
                rounds[hunters - 1] = NONE;
                if (!opensLit(hunters)) {
                    explore(hunters);
                }
                ready[hunters - 1] = true;
            }
            return rounds[hunters - 1];
        }

        private int rowIn(int hunters, int round) {
            int last = roundsOf(hunters);
            return last != NONE && round >= 0 && round <= last ? path[pathIndex(hunters, round)] : NONE;
        }

        private static int pathIndex(int hunters, int round) {
            return (hunters - 1) * (MOST_ROUNDS + 1) + round;
        }

        private boolean isOnNet(int row) {
            return (rows.standBits(row) & ~net.all()) == 0;
        }

        private boolean opensLit(int hunters) {
            for (int row = FIRST_ROW[hunters]; row < FIRST_ROW[hunters + 1]; row++) {
                if (rows.standBits(row) == net.all()) {
                    rounds[hunters - 1] = 0;
                    path[pathIndex(hunters, 0)] = row;
                    return true;
                }
            }
            return false;
        }

        /** Rows come in their order at every step, so the first way that is found is the first of like ones. */
        private void explore(int hunters) {
            prepare();
            for (int row = FIRST_ROW[hunters]; row < FIRST_ROW[hunters + 1]; row++) {
                if (isOnNet(row)) {
                    enqueue((row - FIRST_ROW[hunters]) * SETS + (net.all() & ~rows.standBits(row)), OPENING);
                }
            }
            int next = 0;
            for (int round = 1; round <= MOST_ROUNDS; round++) {
                int end = queued;
                for (; next < end && next < STATES; next++) {
                    if (stepsToLight(hunters, queue[next], round)) {
                        return;
                    }
                }
            }
        }

        private void prepare() {
            if (ahead == null || queue == null || wide == null) {
                ahead = new int[STATES];
                queue = new int[STATES];
                wide = new int[SETS];
            }
            Arrays.fill(ahead, UNSEEN);
            queued = 0;
            for (int set = 0; set <= net.all() && set < SETS; set++) {
                wide[set] = net.widen(set);
            }
        }

        private void enqueue(int state, int from) {
            if (state >= 0 && state < STATES && ahead[state] == UNSEEN && queued < STATES) {
                ahead[state] = from;
                queue[queued] = state;
                queued++;
            }
        }

        private boolean stepsToLight(int hunters, int state, int round) {
            int first = FIRST_ROW[hunters];
            rows.stepFrom(first + state / SETS, false);
            for (int row = first; row < FIRST_ROW[hunters + 1]; row++) {
                if (rows.isFound(row)) {
                    int stand = rows.standBits(row);
                    int dark = state % SETS & ~stand;
                    if (dark == 0) {
                        rounds[hunters - 1] = round;
                        path[pathIndex(hunters, round)] = row;
                        tellPath(hunters, state, round - 1);
                        return true;
                    }
                    enqueue((row - first) * SETS + (wide[dark] & ~stand), state);
                }
            }
            return false;
        }

        private void tellPath(int hunters, int last, int lastRound) {
            int state = last;
            for (int round = lastRound; round >= 0; round--) {
                if (state >= 0 && state < STATES) {
                    path[pathIndex(hunters, round)] = FIRST_ROW[hunters] + state / SETS;
                    state = ahead[state];
                }
            }
        }
    }

    /** A game that stands somewhere. */
    private static final class Scene {
        private boolean on;
        private int kind;
        private int row;
        private int runner;
        private boolean runnersTurn;
        private int rounds;

        private void copyFrom(Scene other) {
            on = other.on;
            kind = other.kind;
            row = other.row;
            runner = other.runner;
            runnersTurn = other.runnersTurn;
            rounds = other.rounds;
        }

        private void open(int newKind, int newRow, int newRunner) {
            on = true;
            kind = newKind;
            row = newRow;
            runner = newRunner;
            runnersTurn = false;
            rounds = 0;
        }

        private void huntersGo(int newRow) {
            row = newRow;
            runnersTurn = true;
            rounds++;
        }

        private void runnerGoes(int place) {
            runner = place;
            runnersTurn = false;
        }
    }

    /** The net and the scene as they were ahead of the latest acts, in a ring that is used again. */
    private static final class Past {
        private static final int MOST_ACTS = 12;

        private final Net[] nets = new Net[MOST_ACTS];
        private final Scene[] scenes = new Scene[MOST_ACTS];
        private int kept;
        private int next;

        private Past() {
            for (int i = 0; i < MOST_ACTS; i++) {
                nets[i] = new Net();
                scenes[i] = new Scene();
            }
        }

        private void forget() {
            kept = 0;
            next = 0;
        }

        private void keep(Net net, Scene scene) {
            nets[next].copyFrom(net);
            scenes[next].copyFrom(scene);
            next = (next + 1) % MOST_ACTS;
            kept = Math.min(kept + 1, MOST_ACTS);
        }

        private boolean takeBack(Net net, Scene scene) {
            if (kept == 0) {
                return false;
            }
            next = (next + MOST_ACTS - 1) % MOST_ACTS;
            kept--;
            net.copyFrom(nets[next]);
            scene.copyFrom(scenes[next]);
            return true;
        }
    }
}
