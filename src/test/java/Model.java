import java.util.ArrayDeque;
import java.util.ArrayList;
import java.util.Arrays;
import java.util.Deque;
import java.util.HashMap;
import java.util.HashSet;
import java.util.List;
import java.util.Map;
import java.util.NoSuchElementException;
import java.util.Set;
import java.util.TreeSet;

/**
 * The document once more, written as slowly and as near to its words as can be, and in other ways than the class
 * (lists for rows, worths by going over all couples again and again, every renumbering tried): random runs are
 * compared with it.
 */
final class Model {
    static final int INF = 1 << 20;

    /** A net with what was found out of it. */
    static final class Web {
        final int n;
        final boolean[][] line;
        final Map<Integer, Map<List<Integer>, int[]>> worths = new HashMap<>();
        final Map<Integer, List<List<Integer>>> sweeps = new HashMap<>();
        List<int[]> symmetries;

        Web(int n) {
            this.n = n;
            line = new boolean[n][n];
        }

        Web copy() {
            Web web = new Web(n);
            for (int i = 0; i < n; i++) {
                web.line[i] = line[i].clone();
            }
            return web;
        }

        boolean near(int p, int q) {
            return p == q || line[p][q];
        }

        TreeSet<Integer> nearOf(int p) {
            TreeSet<Integer> set = new TreeSet<>();
            for (int q = 0; q < n; q++) {
                if (near(p, q)) {
                    set.add(q);
                }
            }
            return set;
        }

        List<List<Integer>> rows(int hunters) {
            List<List<Integer>> rows = new ArrayList<>();
            for (int a = 0; a < n; a++) {
                if (hunters == 1) {
                    rows.add(List.of(a));
                }
                for (int b = a; b < n && hunters > 1; b++) {
                    if (hunters == 2) {
                        rows.add(List.of(a, b));
                    }
                    for (int c = b; c < n && hunters > 2; c++) {
                        rows.add(List.of(a, b, c));
                    }
                }
            }
            return rows;
        }

        /** Rows that can follow a row, in their order. */
        List<List<Integer>> next(int kind, List<Integer> row) {
            Set<List<Integer>> reached = new HashSet<>();
            go(kind, row, 0, 0, new ArrayList<>(), reached);
            List<List<Integer>> sorted = new ArrayList<>(reached);
            sorted.sort(Model::compareRows);
            return sorted;
        }

        private void go(int kind, List<Integer> row, int i, int left, List<Integer> to, Set<List<Integer>> reached) {
            if (i == row.size()) {
                List<Integer> sorted = new ArrayList<>(to);
                sorted.sort(null);
                reached.add(sorted);
                return;
            }
            for (int q : nearOf(row.get(i))) {
                int leaving = left + (q == row.get(i) ? 0 : 1);
                if (kind != 1 || leaving <= 1) {
                    to.add(q);
                    go(kind, row, i + 1, leaving, to, reached);
                    to.remove(to.size() - 1);
                }
            }
        }

        TreeSet<Integer> runs(int kind, List<Integer> row, int p) {
            TreeSet<Integer> set = nearOf(p);
            if (kind == 2) {
                for (int q : nearOf(p)) {
                    if (!row.contains(q)) {
                        set.addAll(nearOf(q));
                    }
                }
            }
            return set;
        }

        /** Worth at the hunters' turn, INF for NONE. */
        Map<List<Integer>, int[]> worths(int kind, int hunters) {
            return worths.computeIfAbsent(kind * 4 + hunters, key -> solve(kind, hunters));
        }

        private Map<List<Integer>, int[]> solve(int kind, int hunters) {
            Map<List<Integer>, int[]> worth = new HashMap<>();
            Map<List<Integer>, List<List<Integer>>> next = new HashMap<>();
            for (List<Integer> row : rows(hunters)) {
                int[] w = new int[n];
                Arrays.fill(w, INF);
                for (int p : row) {
                    w[p] = 0;
                }
                worth.put(row, w);
                next.put(row, next(kind, row));
            }
            boolean changed = true;
            while (changed) {
                changed = false;
                for (List<Integer> row : rows(hunters)) {
                    for (int p = 0; p < n; p++) {
                        if (row.contains(p)) {
                            continue;
                        }
                        int least = INF;
                        for (List<Integer> to : next.get(row)) {
                            least = Math.min(least, runnersWorth(worth, kind, to, p));
                        }
                        int now = least == INF ? INF : least + 1;
                        if (now < worth.get(row)[p]) {
                            worth.get(row)[p] = now;
                            changed = true;
                        }
                    }
                }
            }
            return worth;
        }

        int runnersWorth(Map<List<Integer>, int[]> worth, int kind, List<Integer> row, int p) {
            if (row.contains(p)) {
                return 0;
            }
            int most = 0;
            for (int q : runs(kind, row, p)) {
                most = Math.max(most, worth.get(row)[q]);
            }
            return most;
        }

        List<Integer> bestRow(int kind, List<Integer> row, int p) {
            Map<List<Integer>, int[]> worth = worths(kind, row.size());
            List<Integer> best = null;
            int least = 0;
            for (List<Integer> to : next(kind, row)) {
                int w = runnersWorth(worth, kind, to, p);
                if (best == null || w < least) {
                    best = to;
                    least = w;
                }
            }
            return best;
        }

        int bestPlace(int kind, List<Integer> row, int p) {
            int[] worth = worths(kind, row.size()).get(row);
            int best = -1;
            for (int q : runs(kind, row, p)) {
                if (best < 0 || worth[q] > worth[best]) {
                    best = q;
                }
            }
            return best;
        }

        List<Integer> start(int kind, int hunters) {
            List<Integer> best = null;
            int least = 0;
            for (List<Integer> row : rows(hunters)) {
                int w = Arrays.stream(worths(kind, hunters).get(row)).max().getAsInt();
                if (best == null || w < least) {
                    best = row;
                    least = w;
                }
            }
            return best;
        }

        int time(int kind, int hunters) {
            int w = Arrays.stream(worths(kind, hunters).get(start(kind, hunters))).max().getAsInt();
            return w >= INF ? -1 : w;
        }

        int distance(int from, int to) {
            int[] d = new int[n];
            Arrays.fill(d, -1);
            d[from] = 0;
            Deque<Integer> queue = new ArrayDeque<>(List.of(from));
            while (!queue.isEmpty()) {
                int p = queue.poll();
                for (int q : nearOf(p)) {
                    if (d[q] < 0) {
                        d[q] = d[p] + 1;
                        queue.add(q);
                    }
                }
            }
            return d[to];
        }

        int corner(Set<Integer> there, int p) {
            for (int q = 0; q < n; q++) {
                if (q == p || !there.contains(q)) {
                    continue;
                }
                boolean all = true;
                for (int r : there) {
                    all &= !near(p, r) || near(q, r);
                }
                if (all) {
                    return q;
                }
            }
            return -1;
        }

        /** Couples of a place that goes and where it comes. */
        List<int[]> dismantling() {
            List<int[]> gone = new ArrayList<>();
            TreeSet<Integer> there = new TreeSet<>();
            for (int p = 0; p < n; p++) {
                there.add(p);
            }
            boolean more = true;
            while (more) {
                more = false;
                for (int p : new ArrayList<>(there)) {
                    int q = corner(there, p);
                    if (q >= 0) {
                        gone.add(new int[] {p, q});
                        there.remove(p);
                        more = true;
                        break;
                    }
                }
            }
            return gone;
        }

        TreeSet<Integer> left() {
            TreeSet<Integer> there = new TreeSet<>();
            for (int p = 0; p < n; p++) {
                there.add(p);
            }
            for (int[] couple : dismantling()) {
                there.remove(couple[0]);
            }
            return there;
        }

        /** By trying all ways that do not come to a place twice. */
        int girth() {
            int least = INF;
            for (int p = 0; p < n; p++) {
                least = Math.min(least, ring(p, p, new HashSet<>(Set.of(p))));
            }
            return least == INF ? -1 : least;
        }

        private int ring(int first, int at, Set<Integer> way) {
            int least = INF;
            for (int q = 0; q < n; q++) {
                if (!line[at][q]) {
                    continue;
                }
                if (q == first && way.size() >= 3) {
                    least = Math.min(least, way.size());
                }
                if (q > first && !way.contains(q) && way.size() < least) {
                    way.add(q);
                    least = Math.min(least, ring(first, q, way));
                    way.remove(q);
                }
            }
            return least;
        }

        int parts() {
            int parts = 0;
            for (int p = 0; p < n; p++) {
                boolean least = true;
                for (int q = 0; q < p; q++) {
                    least &= distance(q, p) < 0;
                }
                parts += least ? 1 : 0;
            }
            return parts;
        }

        int lines() {
            int lines = 0;
            for (int p = 0; p < n; p++) {
                for (int q = 0; q < p; q++) {
                    lines += line[p][q] ? 1 : 0;
                }
            }
            return lines;
        }

        int low() {
            if (n == 0 || parts() > 1) {
                return 0;
            }
            int girth = girth();
            if (girth != 3 && girth != 4) {
                int fewest = INF;
                for (int p = 0; p < n; p++) {
                    fewest = Math.min(fewest, nearOf(p).size() - 1);
                }
                return Math.max(fewest, 1);
            }
            return left().size() > 1 ? 2 : 1;
        }

        List<Integer> cover() {
            for (int size = 0; size <= n; size++) {
                List<Integer> found = cover(size, 0, new ArrayList<>());
                if (found != null) {
                    return found;
                }
            }
            return null;
        }

        private List<Integer> cover(int size, int from, List<Integer> taken) {
            if (taken.size() == size) {
                Set<Integer> covered = new HashSet<>();
                for (int p : taken) {
                    covered.addAll(nearOf(p));
                }
                return covered.size() == n ? new ArrayList<>(taken) : null;
            }
            for (int p = from; p < n; p++) {
                taken.add(p);
                List<Integer> found = cover(size, p + 1, taken);
                taken.remove(taken.size() - 1);
                if (found != null) {
                    return found;
                }
            }
            return null;
        }

        List<int[]> symmetries() {
            if (symmetries == null) {
                symmetries = new ArrayList<>();
                renumber(0, new int[n], new boolean[n]);
            }
            return symmetries;
        }

        private void renumber(int i, int[] to, boolean[] used) {
            if (i == n) {
                for (int p = 0; p < n; p++) {
                    for (int q = 0; q < n; q++) {
                        if (line[p][q] != line[to[p]][to[q]]) {
                            return;
                        }
                    }
                }
                symmetries.add(to.clone());
                return;
            }
            for (int q = 0; q < n; q++) {
                if (!used[q]) {
                    used[q] = true;
                    to[i] = q;
                    renumber(i + 1, to, used);
                    used[q] = false;
                }
            }
        }

        boolean[][] guard(int set) {
            boolean[][] in = new boolean[n][n];
            for (int h = 0; h < n; h++) {
                for (int r = 0; r < n; r++) {
                    in[h][r] = (set >> h & 1) == 1 && (set >> r & 1) == 0;
                }
            }
            for (int i = 0; i < n * n + 1; i++) {
                boolean[][] then = new boolean[n][n];
                for (int h = 0; h < n; h++) {
                    for (int r = 0; r < n; r++) {
                        for (int to : nearOf(h)) {
                            boolean good = (set >> to & 1) == 1;
                            for (int q : nearOf(r)) {
                                good &= (set >> q & 1) == 1 ? near(to, q) : in[to][q];
                            }
                            then[h][r] |= in[h][r] && good;
                        }
                    }
                }
                in = then;
            }
            return in;
        }

        /** The rows of the sweep, null if there is none: backwards by rounds that are still needed. */
        List<List<Integer>> sweep(int hunters) {
            return sweeps.computeIfAbsent(hunters, this::findSweep);
        }

        private List<List<Integer>> findSweep(int hunters) {
            List<List<Integer>> rows = rows(hunters);
            int full = (1 << n) - 1;
            int[][] need = new int[rows.size()][full + 1];
            int[] bits = new int[rows.size()];
            int[][] next = new int[rows.size()][];
            for (int i = 0; i < rows.size(); i++) {
                for (int p : rows.get(i)) {
                    bits[i] |= 1 << p;
                }
                List<List<Integer>> to = next(0, rows.get(i));
                next[i] = new int[to.size()];
                for (int j = 0; j < to.size(); j++) {
                    next[i][j] = rows.indexOf(to.get(j));
                }
                Arrays.fill(need[i], INF);
                need[i][0] = 0;
            }
            for (int round = 1; round <= 60; round++) {
                boolean some = false;
                for (int i = 0; i < rows.size(); i++) {
                    for (int dark = 1; dark <= full; dark++) {
                        if (need[i][dark] == INF && need(need, bits, next[i], dark) == round - 1) {
                            need[i][dark] = round;
                            some = true;
                        }
                    }
                }
                if (!some) {
                    break;
                }
            }
            int at = -1;
            for (int i = 0; i < rows.size(); i++) {
                if (at < 0 || need[i][full & ~bits[i]] < need[at][full & ~bits[at]]) {
                    at = i;
                }
            }
            int dark = full & ~bits[at];
            if (need[at][dark] >= INF) {
                return List.of();
            }
            List<List<Integer>> way = new ArrayList<>(List.of(rows.get(at)));
            while (dark != 0) {
                for (int to : next[at]) {
                    if (after(need, bits, to, dark) == need[at][dark] - 1) {
                        dark = (dark & ~bits[to]) == 0 ? 0 : spread(dark & ~bits[to]) & ~bits[to];
                        at = to;
                        way.add(rows.get(to));
                        break;
                    }
                }
            }
            return way;
        }

        private int need(int[][] need, int[] bits, int[] next, int dark) {
            int least = INF;
            for (int to : next) {
                least = Math.min(least, after(need, bits, to, dark));
            }
            return least;
        }

        private int after(int[][] need, int[] bits, int to, int dark) {
            int rest = dark & ~bits[to];
            return rest == 0 ? 0 : need[to][spread(rest) & ~bits[to]];
        }

        private int spread(int dark) {
            int wide = 0;
            for (int p = 0; p < n; p++) {
                for (int q = 0; q < n; q++) {
                    if ((dark >> p & 1) == 1 && near(p, q)) {
                        wide |= 1 << q;
                    }
                }
            }
            return wide;
        }
    }

    /** A scene; never changed, each turn makes another one. */
    record Stage(int kind, List<Integer> row, int runner, boolean runnersTurn, int rounds) {
        boolean caught() {
            return row.contains(runner);
        }
    }

    record Kept(Web web, Stage stage) {
    }

    static int compareRows(List<Integer> a, List<Integer> b) {
        for (int i = 0; i < a.size(); i++) {
            if (!a.get(i).equals(b.get(i))) {
                return a.get(i) - b.get(i);
            }
        }
        return 0;
    }

    static int bits(Iterable<Integer> places) {
        int bits = 0;
        for (int p : places) {
            bits |= 1 << p;
        }
        return bits;
    }

    private final List<Integer> tape = new ArrayList<>();
    private Web web = new Web(0);
    private Stage stage;
    private final Deque<Kept> past = new ArrayDeque<>();
    private int fault;
    private int faultAt = -1;

    int feed(int a, int b, int c, int d, int e) {
        if (tape.size() + 20 > 600) {
            return -1;
        }
        for (int v : new int[] {a, b, c, d, e}) {
            tape.add(v >>> 24);
            tape.add(v >>> 16 & 255);
            tape.add(v >>> 8 & 255);
            tape.add(v & 255);
        }
        return tape.size();
    }

    int end(int n) {
        if (n < 0 || n > tape.size()) {
            return -1;
        }
        while (tape.size() > n) {
            tape.remove(tape.size() - 1);
        }
        return n;
    }

    private record Token(int at, String text) {
    }

    /** The tokens, "" for what is none, null for the end. */
    private List<Token> tokens() {
        List<Token> tokens = new ArrayList<>();
        StringBuilder text = new StringBuilder();
        for (int b : tape) {
            text.append((char) b);
        }
        int at = 0;
        while (at < text.length()) {
            char c = text.charAt(at);
            if (c == ' ' || c == '\n') {
                at++;
            } else if (c >= 'a' && c <= 'z') {
                int to = at;
                while (to < text.length() && text.charAt(to) >= 'a' && text.charAt(to) <= 'z') {
                    to++;
                }
                tokens.add(new Token(at, to - at > 6 ? "" : text.substring(at, to)));
                at = to;
            } else {
                tokens.add(new Token(at, c == ';' ? ";" : ""));
                at++;
            }
        }
        tokens.add(new Token(text.length(), null));
        return tokens;
    }

    private static boolean isName(Token t) {
        return t.text != null && t.text.matches("[a-z]+") && !t.text.equals("place") && !t.text.equals("line");
    }

    /** The fault of what stands where something else is due. */
    private static int[] off(Token t) {
        return new int[] {"".equals(t.text) ? 1 : 2, t.at};
    }

    private static int[] parse(List<Token> tokens, List<String> names, Set<Set<String>> lines) {
        int i = 0;
        while (tokens.get(i).text != null) {
            Token t = tokens.get(i);
            if ("place".equals(t.text)) {
                if (names.size() == 9) {
                    return new int[] {5, t.at};
                }
                Token name = tokens.get(i + 1);
                if (!isName(name)) {
                    return off(name);
                }
                if (names.contains(name.text)) {
                    return new int[] {3, name.at};
                }
                names.add(name.text);
                i += 2;
            } else if ("line".equals(t.text)) {
                Token one = tokens.get(i + 1);
                if (!isName(one)) {
                    return off(one);
                }
                if (!names.contains(one.text)) {
                    return new int[] {3, one.at};
                }
                Token two = tokens.get(i + 2);
                if (!isName(two)) {
                    return off(two);
                }
                if (!names.contains(two.text) || two.text.equals(one.text)) {
                    return new int[] {3, two.at};
                }
                if (!lines.add(Set.of(one.text, two.text))) {
                    return new int[] {4, two.at};
                }
                i += 3;
            } else {
                return off(t);
            }
            if (!";".equals(tokens.get(i).text)) {
                return off(tokens.get(i));
            }
            i++;
        }
        return new int[] {0, -1};
    }

    int net() {
        List<String> names = new ArrayList<>();
        Set<Set<String>> lines = new HashSet<>();
        int[] found = parse(tokens(), names, lines);
        tape.clear();
        fault = found[0];
        faultAt = found[1];
        if (fault != 0) {
            return -1;
        }
        web = new Web(names.size());
        for (int p = 0; p < names.size(); p++) {
            for (int q = 0; q < names.size(); q++) {
                web.line[p][q] = p != q && lines.contains(Set.of(names.get(p), names.get(q)));
            }
        }
        stage = null;
        past.clear();
        return web.n;
    }

    int fault(int what) {
        return what == 0 ? fault : what == 1 ? faultAt : -1;
    }

    int about(int what) {
        return switch (what) {
            case 0 -> web.n;
            case 1 -> web.lines();
            case 2 -> web.parts();
            case 3 -> web.girth();
            case 4 -> web.low();
            case 5 -> web.cover().size();
            case 6 -> bits(web.cover());
            case 7 -> past.size();
            case 8 -> tape.size();
            default -> -1;
        };
    }

    private boolean has(int... places) {
        for (int p : places) {
            if (p < 0 || p >= web.n) {
                return false;
            }
        }
        return true;
    }

    int near(int place) {
        return has(place) ? bits(web.nearOf(place)) : -1;
    }

    int distance(int from, int to) {
        if (!has(from, to)) {
            throw new NoSuchElementException();
        }
        return web.distance(from, to);
    }

    int corner(int place) {
        if (!has(place)) {
            throw new NoSuchElementException();
        }
        Set<Integer> all = new TreeSet<>();
        for (int p = 0; p < web.n; p++) {
            all.add(p);
        }
        return web.corner(all, place);
    }

    int goes(int i) {
        List<int[]> gone = web.dismantling();
        return i == -1 ? gone.size() : i >= 0 && i < gone.size() ? gone.get(i)[0] : -1;
    }

    int left() {
        return bits(web.left());
    }

    int image(int place) {
        if (!has(place)) {
            return -1;
        }
        int at = place;
        for (int[] couple : web.dismantling()) {
            if (couple[0] == at) {
                at = couple[1];
            }
        }
        return at;
    }

    private boolean canBe(int kind, int hunters) {
        return web.n > 0 && kind >= 0 && kind <= 2 && hunters >= 1 && hunters <= 3;
    }

    int fewest(int kind) {
        for (int hunters = 1; hunters <= 3; hunters++) {
            if (time(kind, hunters) >= 0) {
                return hunters;
            }
        }
        return -1;
    }

    int time(int kind, int hunters) {
        return canBe(kind, hunters) ? web.time(kind, hunters) : -1;
    }

    int start(int kind, int hunters, int i) {
        return canBe(kind, hunters) && i >= 0 && i < hunters ? web.start(kind, hunters).get(i) : -1;
    }

    /** Null if it can't be. */
    private List<Integer> row(int a, int b, int c) {
        List<Integer> row = new ArrayList<>(List.of(a));
        if (b == -1 && c != -1) {
            return null;
        }
        if (b != -1) {
            row.add(b);
        }
        if (c != -1) {
            row.add(c);
        }
        for (int p : row) {
            if (!has(p)) {
                return null;
            }
        }
        row.sort(null);
        return row;
    }

    int sure(int kind, int a, int b, int c) {
        List<Integer> row = row(a, b, c);
        if (row == null || !canBe(kind, row.size())) {
            return -1;
        }
        int bits = 0;
        for (int p = 0; p < web.n; p++) {
            bits |= web.worths(kind, row.size()).get(row)[p] < INF ? 1 << p : 0;
        }
        return bits;
    }

    private List<int[]> refused(int kind, int hunters) {
        List<int[]> list = new ArrayList<>();
        for (List<Integer> row : web.rows(hunters)) {
            for (int p = 0; p < web.n; p++) {
                if (web.worths(kind, hunters).get(row)[p] >= INF) {
                    int[] one = new int[hunters + 1];
                    one[0] = p;
                    for (int i = 0; i < hunters; i++) {
                        one[i + 1] = row.get(i);
                    }
                    list.add(one);
                }
            }
        }
        return list;
    }

    int refusals(int kind, int hunters) {
        return canBe(kind, hunters) ? refused(kind, hunters).size() : -1;
    }

    int refusal(int kind, int hunters, int i, int what) {
        if (!canBe(kind, hunters) || what < 0 || what > hunters) {
            return -1;
        }
        List<int[]> list = refused(kind, hunters);
        return i >= 0 && i < list.size() ? list.get(i)[what] : -1;
    }

    int trial(int kind, int hunters, int seed) {
        if (!canBe(kind, hunters)) {
            return -1;
        }
        int s = seed * 1103515245 + 12345;
        int at = (s >>> 16) % web.n;
        List<Integer> row = web.start(kind, hunters);
        int turns = 0;
        while (!row.contains(at)) {
            if (turns == 100) {
                return -2;
            }
            row = web.bestRow(kind, row, at);
            turns++;
            if (!row.contains(at)) {
                List<Integer> to = new ArrayList<>(web.runs(kind, row, at));
                s = s * 1103515245 + 12345;
                at = to.get((s >>> 16) % to.size());
            }
        }
        return turns;
    }

    int helps(int kind, int hunters) {
        if (!canBe(kind, hunters) || hunters > 2) {
            return -1;
        }
        if (web.time(kind, hunters) >= 0) {
            return -2;
        }
        for (int p = 0; p < web.n; p++) {
            for (int q = p + 1; q < web.n; q++) {
                Web other = web.copy();
                other.line[p][q] = !other.line[p][q];
                other.line[q][p] = other.line[p][q];
                if (other.time(kind, hunters) >= 0) {
                    return 16 * p + q;
                }
            }
        }
        return -1;
    }

    int symmetries() {
        return web.symmetries().size();
    }

    int alike(int place) {
        if (!has(place)) {
            return -1;
        }
        int least = place;
        for (int[] to : web.symmetries()) {
            least = Math.min(least, to[place]);
        }
        return least;
    }

    private boolean isSet(int set) {
        return set > 0 && set < 1 << web.n;
    }

    int guard(int set) {
        if (!isSet(set)) {
            return -1;
        }
        int couples = 0;
        for (boolean[] some : web.guard(set)) {
            for (boolean one : some) {
                couples += one ? 1 : 0;
            }
        }
        return couples;
    }

    int guards(int set, int hunter, int runner) {
        return !isSet(set) || !has(hunter, runner) ? -1 : web.guard(set)[hunter][runner] ? 1 : 0;
    }

    int sweep(int hunters) {
        return hunters < 1 || hunters > 2 || web.n == 0 ? -1 : web.sweep(hunters).size() - 1;
    }

    int swept(int hunters, int r, int i) {
        if (r < 0 || r > sweep(hunters) || i < 0 || i >= hunters) {
            return -1;
        }
        return web.sweep(hunters).get(r).get(i);
    }

    private void keep() {
        past.addLast(new Kept(web, stage));
        if (past.size() > 12) {
            past.removeFirst();
        }
    }

    int begin(int kind, int a, int b, int c, int runner) {
        List<Integer> row = row(a, b, c);
        if (row == null || !canBe(kind, row.size()) || !has(runner)) {
            return -1;
        }
        keep();
        stage = new Stage(kind, row, runner, false, 0);
        return row.size();
    }

    int scene(int what) {
        if (stage == null) {
            return -2;
        }
        if (what >= 10 && what < 10 + stage.row.size()) {
            return stage.row.get(what - 10);
        }
        return switch (what) {
            case 0 -> stage.kind;
            case 1 -> stage.row.size();
            case 2 -> stage.runner;
            case 3 -> stage.runnersTurn ? 1 : 0;
            case 4 -> stage.rounds;
            case 5 -> stage.caught() ? 1 : 0;
            case 6 -> worth();
            default -> -2;
        };
    }

    private int worth() {
        Map<List<Integer>, int[]> worths = web.worths(stage.kind, stage.row.size());
        int w = stage.runnersTurn ? web.runnersWorth(worths, stage.kind, stage.row, stage.runner)
                : worths.get(stage.row)[stage.runner];
        return w >= INF ? -1 : w;
    }

    int best(int i) {
        if (stage == null || stage.caught()) {
            return -1;
        }
        if (stage.runnersTurn) {
            return i == 0 ? web.bestPlace(stage.kind, stage.row, stage.runner) : -1;
        }
        List<Integer> row = web.bestRow(stage.kind, stage.row, stage.runner);
        return i >= 0 && i < row.size() ? row.get(i) : -1;
    }

    int safe() {
        if (stage == null || stage.caught() || !stage.runnersTurn) {
            return -1;
        }
        int bits = 0;
        for (int q : web.runs(stage.kind, stage.row, stage.runner)) {
            bits |= web.worths(stage.kind, stage.row.size()).get(stage.row)[q] >= INF ? 1 << q : 0;
        }
        return bits;
    }

    boolean hunt(int a, int b, int c) {
        List<Integer> row = row(a, b, c);
        if (row == null || stage == null || stage.caught() || stage.runnersTurn
                || !web.next(stage.kind, stage.row).contains(row)) {
            return false;
        }
        keep();
        stage = new Stage(stage.kind, row, stage.runner, true, stage.rounds + 1);
        return true;
    }

    boolean run(int place) {
        if (stage == null || stage.caught() || !stage.runnersTurn
                || !web.runs(stage.kind, stage.row, stage.runner).contains(place)) {
            return false;
        }
        keep();
        stage = new Stage(stage.kind, stage.row, place, false, stage.rounds);
        return true;
    }

    int play(int n) {
        if (n < 1 || n > 100 || stage == null || stage.caught()) {
            return -1;
        }
        keep();
        int done = 0;
        while (done < n && !stage.caught()) {
            if (stage.runnersTurn) {
                int to = web.bestPlace(stage.kind, stage.row, stage.runner);
                stage = new Stage(stage.kind, stage.row, to, false, stage.rounds);
            } else {
                List<Integer> to = web.bestRow(stage.kind, stage.row, stage.runner);
                stage = new Stage(stage.kind, to, stage.runner, true, stage.rounds + 1);
            }
            done++;
        }
        return done;
    }

    private void anew(Web other) {
        keep();
        web = other;
        stage = null;
    }

    int toggle(int one, int other) {
        if (!has(one, other) || one == other) {
            return -1;
        }
        Web then = web.copy();
        then.line[one][other] = !then.line[one][other];
        then.line[other][one] = then.line[one][other];
        anew(then);
        return then.line[one][other] ? 1 : 0;
    }

    int become(int what) {
        if (web.n == 0 || what < 0 || what > 2 || what == 2 && web.n > 4) {
            return -1;
        }
        List<Integer> left = new ArrayList<>(web.left());
        int n = web.n;
        Web then = new Web(what == 0 ? left.size() : what == 1 ? n : 2 * n);
        for (int p = 0; p < then.n; p++) {
            for (int q = 0; q < then.n; q++) {
                if (what == 0) {
                    then.line[p][q] = web.line[left.get(p)][left.get(q)];
                } else if (what == 1) {
                    then.line[p][q] = p != q && !web.line[p][q];
                } else {
                    then.line[p][q] = p / n == q / n ? web.line[p % n][q % n] : p % n == q % n;
                }
            }
        }
        anew(then);
        return then.n;
    }

    boolean undo() {
        if (past.isEmpty()) {
            return false;
        }
        Kept kept = past.removeLast();
        web = kept.web;
        stage = kept.stage;
        return true;
    }
}
