import java.util.ArrayList;
import java.util.Arrays;
import java.util.List;
import java.util.Random;
import java.util.regex.Matcher;
import java.util.regex.Pattern;

/**
 * Long runs of drawn calls (always the same ones), each answer held against a model that is written
 * from the document in another way: whole copies of states, and every possibility tried in turn.
 */
public final class ModelTest {
    private static final int BAD = -1, NOT = -2, FULL = -3, NONE = -4, NULL = -11, CAST = -12, INDEX = -13, SIZE = -14;

    private static final class State {
        String letters = "";
        int[] grievance = {}, wins = {}, lean = {}, favours = {};
        int[][] cases = {};
        int[] won = {};
        int next = 0, sits = NONE;

        State twin() {
            State t = new State();
            t.letters = letters;
            t.grievance = grievance.clone();
            t.wins = wins.clone();
            t.lean = lean.clone();
            t.favours = favours.clone();
            t.cases = new int[cases.length][];
            for (int i = 0; i < cases.length; i++) {
                t.cases[i] = cases[i].clone();
            }
            t.won = won.clone();
            t.next = next;
            t.sits = sits;
            return t;
        }

        int parties() {
            return letters.length();
        }

        int found(int judge, int[] c) {
            int sum = c[2] + (favours[judge] == c[0] ? 2 : 0) - (favours[judge] == c[1] ? 2 : 0);
            return sum >= lean[judge] ? c[0] : c[1];
        }

        /** All judges, the one liked best first. */
        List<Integer> likes(int party, char letter) {
            List<Integer> row = new ArrayList<>();
            for (int j = 0; j < lean.length; j++) {
                row.add(j);
            }
            if (letter == 'p' || letter == 's') {
                row.sort((a, b) -> Integer.compare(lean[a], lean[b]));
            } else if (letter == 'b') {
                row.sort((a, b) -> Integer.compare(lean[b], lean[a]));
            } else if (letter == 'f') {
                row.sort((a, b) -> Integer.compare(lean[b] + (favours[b] == party ? 5 : 0),
                    lean[a] + (favours[a] == party ? 5 : 0)));
            }
            return row;
        }

        int named(int party, char letter, int before) {
            if (letter == 's') {
                return before;
            }
            if (letter == 'l') {
                return (before + 1) % lean.length;
            }
            List<Integer> row = likes(party, letter);
            if (row.size() > 1) {
                row.remove(Integer.valueOf(before));
            }
            return row.get(0);
        }

        int hurt(int party, int weight) {
            switch (letters.charAt(party)) {
                case 'p': return weight;
                case 'b': return weight * 2;
                case 'f': return weight * 2 + 1;
                case 'l': return 1;
                default: return 0;
            }
        }

        /** A case is won by a party: all that follows, but for which one is next. */
        void give(int at, int winner) {
            int loser = cases[at][0] + cases[at][1] - winner;
            won[at] = winner;
            wins[winner]++;
            grievance[winner] = grievance[winner] == 0 ? 0 : grievance[winner] - 1;
            grievance[loser] += hurt(loser, cases[at][2]);
            if (grievance[loser] > 20) {
                grievance[loser] = 20;
            }
            sits = named(loser, letters.charAt(loser), sits);
        }

        int hearing(int at, int throwing) {
            int winner = throwing == 1 ? cases[at][1] : throwing == 2 ? cases[at][0] : found(sits, cases[at]);
            give(at, winner);
            return winner;
        }

        boolean just(int at) {
            return won[at] == (cases[at][2] > 4 ? cases[at][0] : cases[at][1]);
        }

        boolean own(int party, int at) {
            return cases[at][0] == party || cases[at][1] == party;
        }
    }

    private static final class Model {
        StringBuilder tape = new StringBuilder();
        State s = new State();
        List<State> past = new ArrayList<>();
        State[] images = new State[2];
        int[] lanes = new int[4];
        long[][] sheets = new long[4][];

        void act() {
            past.add(s.twin());
            if (past.size() > 24) {
                past.remove(0);
            }
        }

        boolean p(int party) {
            return party >= 0 && party < s.parties();
        }

        boolean j(int judge) {
            return judge >= 0 && judge < s.lean.length;
        }

        boolean c(int at) {
            return at >= 0 && at < s.cases.length;
        }

        static boolean in(int v, int low, int high) {
            return v >= low && v <= high;
        }

        int left() {
            return s.cases.length - s.next;
        }

        int feed(int letter) {
            if (!in(letter, 0, 255)) {
                return BAD;
            }
            if (tape.length() == 130) {
                return FULL;
            }
            tape.append((char) letter);
            return tape.length();
        }

        static List<Pattern> patterns = makePatterns();

        static List<Pattern> makePatterns() {
            List<Pattern> all = new ArrayList<>();
            for (int p = 2; p <= 6; p++) {
                for (int j = 1; j <= 6; j++) {
                    StringBuilder pairs = new StringBuilder();
                    for (int a = 0; a < p; a++) {
                        for (int b = 0; b < p; b++) {
                            if (a != b) {
                                pairs.append(pairs.length() == 0 ? "" : "|").append(a).append(b);
                            }
                        }
                    }
                    String party = "[pbslf][0-9]", judge = "[0-9][-0-" + (p - 1) + "]", one = "(" + pairs + ")[0-9]";
                    all.add(Pattern.compile("c" + party + "(," + party + "){" + (p - 1) + "};" + judge + "(," + judge
                        + "){" + (j - 1) + "};" + one + "(," + one + "){0,11};[0-" + (j - 1) + "]"));
                }
            }
            return all;
        }

        static boolean viable(String prefix) {
            for (Pattern pattern : patterns) {
                Matcher m = pattern.matcher(prefix);
                if (m.matches() || m.hitEnd()) {
                    return true;
                }
            }
            return false;
        }

        static boolean whole(String text) {
            for (Pattern pattern : patterns) {
                if (pattern.matcher(text).matches()) {
                    return true;
                }
            }
            return false;
        }

        int circuit() {
            String text = tape.toString();
            tape.setLength(0);
            if (!whole(text)) {
                for (int n = 1; n <= text.length(); n++) {
                    if (!viable(text.substring(0, n))) {
                        return -100 - (n - 1);
                    }
                }
                return -100 - text.length();
            }
            String[] parts = text.substring(1).split(";");
            State t = new State();
            String[] ps = parts[0].split(","), js = parts[1].split(","), cs = parts[2].split(",");
            t.grievance = new int[ps.length];
            t.wins = new int[ps.length];
            for (int i = 0; i < ps.length; i++) {
                t.letters += ps[i].charAt(0);
                t.grievance[i] = ps[i].charAt(1) - '0';
            }
            t.lean = new int[js.length];
            t.favours = new int[js.length];
            for (int i = 0; i < js.length; i++) {
                t.lean[i] = js[i].charAt(0) - '0';
                t.favours[i] = js[i].charAt(1) == '-' ? NONE : js[i].charAt(1) - '0';
            }
            t.cases = new int[cs.length][];
            t.won = new int[cs.length];
            Arrays.fill(t.won, NONE);
            for (int i = 0; i < cs.length; i++) {
                t.cases[i] = new int[] {cs[i].charAt(0) - '0', cs[i].charAt(1) - '0', cs[i].charAt(2) - '0'};
            }
            t.sits = parts[3].charAt(0) - '0';
            s = t;
            past.clear();
            return cs.length;
        }

        int party(int party, int what) {
            if (!p(party) || !in(what, 0, 3)) {
                return BAD;
            }
            char letter = s.letters.charAt(party);
            return what == 0 ? " pbslf".indexOf(letter) : what == 1 ? s.grievance[party] : what == 2 ? s.wins[party]
                : s.named(party, letter, s.sits);
        }

        int as(int party, int kind) {
            if (!p(party) || !in(kind, 0, 5)) {
                return BAD;
            }
            String[] are = {"pbslf", "pbsf", "bf", "s", "l", "f"};
            return are[kind].indexOf(s.letters.charAt(party)) >= 0 ? party : CAST;
        }

        int judge(int judge, int what) {
            if (!j(judge) || !in(what, 0, 2)) {
                return BAD;
            }
            return what == 0 ? s.lean[judge] : what == 1 ? s.favours[judge] : s.sits == judge ? 1 : 0;
        }

        int trial(int at, int what) {
            if (!c(at) || !in(what, 0, 3)) {
                return BAD;
            }
            return what < 3 ? s.cases[at][what] : s.won[at];
        }

        int finds(int judge, int at) {
            return !j(judge) || !c(at) ? BAD : s.found(judge, s.cases[at]);
        }

        int names(int party, int judge) {
            return !p(party) || !j(judge) ? BAD : s.named(party, s.letters.charAt(party), judge);
        }

        int hear(int throwing) {
            if (!in(throwing, 0, 2)) {
                return BAD;
            }
            if (left() == 0) {
                return NOT;
            }
            act();
            s.next++;
            return s.hearing(s.next - 1, throwing);
        }

        int swap(int one, int other) {
            if (!c(one) || !c(other)) {
                return BAD;
            }
            if (one == other || s.won[one] != NONE || s.won[other] != NONE) {
                return NOT;
            }
            act();
            int[] kept = s.cases[one];
            s.cases[one] = s.cases[other];
            s.cases[other] = kept;
            return s.next;
        }

        int soothe(int party) {
            if (!p(party)) {
                return BAD;
            }
            if (s.grievance[party] == 0) {
                return NOT;
            }
            act();
            s.grievance[party] = s.grievance[party] < 3 ? 0 : s.grievance[party] - 3;
            return s.grievance[party];
        }

        int seat(int judge) {
            if (!j(judge)) {
                return BAD;
            }
            if (s.sits == judge) {
                return NOT;
            }
            act();
            int did = s.sits;
            s.sits = judge;
            return did;
        }

        int lean(int judge, int lean) {
            if (!j(judge) || !in(lean, 0, 9)) {
                return BAD;
            }
            if (s.lean[judge] == lean) {
                return NOT;
            }
            act();
            int was = s.lean[judge];
            s.lean[judge] = lean;
            return was;
        }

        int undo() {
            if (past.isEmpty()) {
                return NONE;
            }
            s = past.remove(past.size() - 1);
            return past.size();
        }

        int image(int k) {
            if (!in(k, 0, 1)) {
                return BAD;
            }
            if (s.cases.length == 0) {
                return NOT;
            }
            images[k] = s.twin();
            return s.next;
        }

        int restore(int k) {
            if (!in(k, 0, 1)) {
                return BAD;
            }
            if (images[k] == null) {
                return NOT;
            }
            s = images[k].twin();
            past.clear();
            return s.next;
        }

        int ahead(int n, int what) {
            if (!in(n, 0, 12) || !in(what, 0, 1)) {
                return BAD;
            }
            if (s.cases.length == 0) {
                return NOT;
            }
            if (n > left()) {
                return NONE;
            }
            State t = s.twin();
            int winner = NONE;
            for (int k = 0; k < n; k++) {
                winner = t.hearing(t.next + k, 0);
            }
            return what == 0 ? winner : t.sits;
        }

        /** Hears the cases from the next one up to the end, a party throwing a set: the state then. */
        State thrown(int party, int set, int end) {
            State t = s.twin();
            for (int at = t.next; at < end; at++) {
                t.hearing(at, (set >> at & 1) == 0 ? 0 : t.cases[at][0] == party ? 1 : 2);
            }
            return t;
        }

        int ownSet(int party, int end) {
            int set = 0;
            for (int at = s.next; at < end; at++) {
                set |= s.own(party, at) ? 1 << at : 0;
            }
            return set;
        }

        int throwing(int party, int at) {
            if (!p(party) || !c(at)) {
                return BAD;
            }
            if (!s.own(party, at) || s.won[at] != NONE) {
                return NOT;
            }
            int own = ownSet(party, at);
            for (int few = 0; few <= 12; few++) {
                for (int set = 0; set <= own; set++) {
                    if ((set & ~own) == 0 && Integer.bitCount(set) == few) {
                        State t = thrown(party, set, at);
                        if (t.found(t.sits, t.cases[at]) == party) {
                            return set;
                        }
                    }
                }
            }
            return NONE;
        }

        int worth(int party) {
            if (!p(party)) {
                return BAD;
            }
            int own = ownSet(party, s.cases.length);
            int most = 0;
            for (int set = 0; set <= own; set++) {
                if ((set & ~own) == 0) {
                    most = Math.max(most, thrown(party, set, s.cases.length).wins[party] - s.wins[party]);
                }
            }
            return most;
        }

        int duelled(State t, int a, int b, int at, int end) {
            if (at == end) {
                return (t.wins[a] - s.wins[a]) - (t.wins[b] - s.wins[b]);
            }
            int best = duelledBehind(t, a, b, at, end, t.found(t.sits, t.cases[at]));
            if (t.own(b, at)) {
                best = Math.min(best, duelledBehind(t, a, b, at, end, t.cases[at][0] + t.cases[at][1] - b));
            }
            if (t.own(a, at)) {
                best = Math.max(best, duelledBehind(t, a, b, at, end, t.cases[at][0] + t.cases[at][1] - a));
            }
            return best;
        }

        int duelledBehind(State t, int a, int b, int at, int end, int winner) {
            State u = t.twin();
            u.give(at, winner);
            return duelled(u, a, b, at + 1, end);
        }

        int duel(int a, int b, int n) {
            if (!p(a) || !p(b) || a == b || !in(n, 0, 8)) {
                return BAD;
            }
            return 100 + duelled(s, a, b, s.next, Math.min(s.next + n, s.cases.length));
        }

        List<Integer> bestOrder;
        int bestJust;

        void orders(State t, List<Integer> done, int just, int n) {
            if (done.size() == n) {
                if (just > bestJust) {
                    bestJust = just;
                    bestOrder = new ArrayList<>(done);
                }
                return;
            }
            for (int at = s.next; at < s.next + n; at++) {
                if (!done.contains(at)) {
                    State u = t.twin();
                    u.hearing(at, 0);
                    done.add(at);
                    orders(u, done, just + (u.just(at) ? 1 : 0), n);
                    done.remove(done.size() - 1);
                }
            }
        }

        int order(int n, int k) {
            if (!in(n, 0, 6) || k < -1) {
                return BAD;
            }
            if (s.cases.length == 0) {
                return NOT;
            }
            if (n > left() || k >= n) {
                return NONE;
            }
            bestJust = -1;
            orders(s, new ArrayList<>(), 0, n);
            return k == -1 ? bestJust : bestOrder.get(k);
        }

        int round(int at, int what) {
            if (!c(at) || !in(what, 0, 1)) {
                return BAD;
            }
            State t = s.twin();
            List<String> seen = new ArrayList<>();
            while (true) {
                String now = t.sits + " " + t.grievance[t.cases[at][0]] + " " + t.grievance[t.cases[at][1]];
                int before = seen.indexOf(now);
                if (before >= 0) {
                    return what == 0 ? before : seen.size() - before;
                }
                seen.add(now);
                t.hearing(at, 0);
            }
        }

        List<int[]> stable;

        /** How far behind a judge stands in what a party likes; to have none is worst. */
        int rank(int party, int judge) {
            return judge == NONE ? 99 : s.likes(party, s.letters.charAt(party)).indexOf(judge);
        }

        boolean quiet(int[] judgeOf) {
            for (int p = 0; p < judgeOf.length; p++) {
                for (int j = 0; j < s.lean.length; j++) {
                    int has = NONE;
                    for (int q = 0; q < judgeOf.length; q++) {
                        has = judgeOf[q] == j ? q : has;
                    }
                    boolean wanted = has == NONE || s.grievance[p] * 10 + p < s.grievance[has] * 10 + has;
                    if (wanted && rank(p, j) < rank(p, judgeOf[p])) {
                        return false;
                    }
                }
            }
            return true;
        }

        void benches(int[] judgeOf, int party) {
            if (party == judgeOf.length) {
                if (quiet(judgeOf)) {
                    stable.add(judgeOf.clone());
                }
                return;
            }
            for (int j = -1; j < s.lean.length; j++) {
                boolean free = true;
                for (int q = 0; q < party; q++) {
                    free &= j == -1 || judgeOf[q] != j;
                }
                if (free) {
                    judgeOf[party] = j == -1 ? NONE : j;
                    benches(judgeOf, party + 1);
                }
            }
        }

        int bench(int party) {
            if (!p(party)) {
                return BAD;
            }
            stable = new ArrayList<>();
            benches(new int[s.parties()], 0);
            int best = NONE;
            for (int[] judgeOf : stable) {
                best = rank(party, judgeOf[party]) < rank(party, best) ? judgeOf[party] : best;
            }
            return best;
        }

        int errors(int party, int n, int q, int what) {
            if (!p(party) || !in(n, 1, 6) || !in(q, 0, 10) || !in(what, 0, 1)) {
                return BAD;
            }
            if (n > left()) {
                return NONE;
            }
            long above = 0, below = 1;
            for (int k = 0; k < n; k++) {
                below *= 10;
            }
            for (int set = 0; set < 1 << n; set++) {
                State t = s.twin();
                long part = 1;
                for (int k = 0; k < n; k++) {
                    int[] c = t.cases[t.next + k];
                    int found = t.found(t.sits, c);
                    boolean wrong = (set >> k & 1) == 1;
                    t.give(t.next + k, wrong ? c[0] + c[1] - found : found);
                    part *= wrong ? q : 10 - q;
                }
                above += t.won[t.next + n - 1] == party ? part : 0;
            }
            for (int d = 2; d <= 5; d += 3) {
                while (above % d == 0 && below % d == 0) {
                    above /= d;
                    below /= d;
                }
            }
            return (int) (what == 0 ? above : below);
        }

        int decades(int n, int seed, int what) {
            if (!in(n, 0, 60) || !in(seed, 1, 999999) || !in(what, 0, 1)) {
                return BAD;
            }
            if (s.cases.length == 0) {
                return NOT;
            }
            State t = s.twin();
            long x = seed;
            for (int k = 0; k < n; k++) {
                x = x * 16807 % Integer.MAX_VALUE;
                int left = (int) (x / 8 % 5);
                t.hearing((t.next + k) % t.cases.length, left == 0 ? 1 : left == 1 ? 2 : 0);
            }
            return what == 0 ? Arrays.stream(t.grievance).sum() : t.sits;
        }

        int sheet(int sheet, int lane, int n) {
            if (!in(sheet, 0, 3) || !in(lane, 0, 3) || n > 24) {
                return BAD;
            }
            if (n < 0) {
                return SIZE;
            }
            lanes[sheet] = lane;
            sheets[sheet] = new long[n];
            return n;
        }

        int drop(int sheet) {
            if (!in(sheet, 0, 3)) {
                return BAD;
            }
            if (sheets[sheet] == null) {
                return NULL;
            }
            int had = sheets[sheet].length;
            sheets[sheet] = null;
            return had;
        }

        int reach(int sheet, int lane, int i, int n) {
            if (sheets[sheet] == null) {
                return NULL;
            }
            if (lanes[sheet] != lane) {
                return CAST;
            }
            return i < 0 || n < 0 || (long) i + n > sheets[sheet].length ? INDEX : 0;
        }

        long put(int sheet, int i, long v) {
            int bits = 8 << lanes[sheet];
            sheets[sheet][i] = v << 64 - bits >> 64 - bits;
            return sheets[sheet][i];
        }

        long item(int sheet, int lane, int i, long v) {
            if (!in(sheet, 0, 3) || !in(lane, 0, 3)) {
                return BAD;
            }
            int refused = reach(sheet, lane, i, 1);
            return refused < 0 ? refused : put(sheet, i, v);
        }

        int copy(int from, int i, int to, int j, int n) {
            if (!in(from, 0, 3) || !in(to, 0, 3)) {
                return BAD;
            }
            if (sheets[from] == null || sheets[to] == null) {
                return NULL;
            }
            int one = reach(from, lanes[to], i, n), other = reach(to, lanes[from], j, n);
            if (one < 0 || other < 0) {
                return one < 0 ? one : other;
            }
            long[] taken = Arrays.copyOfRange(sheets[from], i, i + n);
            for (int k = 0; k < n; k++) {
                sheets[to][j + k] = taken[k];
            }
            return n;
        }

        int log(int sheet, int lane, int i, int n) {
            if (!in(sheet, 0, 3) || !in(lane, 0, 3) || !in(n, 1, 12)) {
                return BAD;
            }
            int refused = reach(sheet, lane, i, n);
            if (refused < 0) {
                return refused;
            }
            if (n > left()) {
                return NOT;
            }
            for (int k = 0; k < n; k++) {
                put(sheet, i + k, ahead(k + 1, 0));
            }
            return n;
        }

        int leans(int judge, int sheet, int lane, int i, int n, int what) {
            if (!j(judge) || !in(sheet, 0, 3) || !in(lane, 0, 3) || !in(n, 1, 10) || !in(what, 0, 1)) {
                return BAD;
            }
            int refused = reach(sheet, lane, i, 2 * n);
            if (refused < 0) {
                return refused;
            }
            for (int k = i; k < i + 2 * n; k += 2) {
                long at = sheets[sheet][k], side = sheets[sheet][k + 1];
                if (at < 0 || at >= s.cases.length || side != 0 && side != 1) {
                    return NOT;
                }
            }
            State t = s.twin();
            int set = 0;
            for (int lean = 0; lean < 10; lean++) {
                t.lean[judge] = lean;
                boolean fits = true;
                for (int k = i; k < i + 2 * n; k += 2) {
                    int[] c = t.cases[(int) sheets[sheet][k]];
                    fits &= t.found(judge, c) == c[(int) sheets[sheet][k + 1]];
                }
                set |= fits ? 1 << lean : 0;
            }
            if (what == 0) {
                return set;
            }
            int best = NONE, least = 99;
            for (int at = 0; at < t.cases.length; at++) {
                int[] sides = new int[2];
                for (int lean = 0; lean < 10; lean++) {
                    t.lean[judge] = lean;
                    sides[t.found(judge, t.cases[at]) == t.cases[at][0] ? 0 : 1] += set >> lean & 1;
                }
                if (Math.max(sides[0], sides[1]) < least) {
                    least = Math.max(sides[0], sides[1]);
                    best = at;
                }
            }
            return set == 0 ? NONE : best;
        }

        int kinds(int party, int sheet, int lane, int i, int n, int what) {
            if (!p(party) || !in(sheet, 0, 3) || !in(lane, 0, 3) || !in(n, 1, 10) || !in(what, 0, 1)) {
                return BAD;
            }
            int refused = reach(sheet, lane, i, 2 * n);
            if (refused < 0) {
                return refused;
            }
            for (int k = i; k < i + 2 * n; k++) {
                if (sheets[sheet][k] < 0 || sheets[sheet][k] >= s.lean.length) {
                    return NOT;
                }
            }
            String open = "";
            int set = 0;
            for (char letter : "pbslf".toCharArray()) {
                boolean fits = true;
                for (int k = i; k < i + 2 * n; k += 2) {
                    fits &= s.named(party, letter, (int) sheets[sheet][k]) == sheets[sheet][k + 1];
                }
                if (fits) {
                    open += letter;
                    set |= 1 << " pbslf".indexOf(letter);
                }
            }
            if (what == 0) {
                return set;
            }
            int best = NONE, least = 99;
            for (int judge = 0; judge < s.lean.length && set != 0; judge++) {
                int[] parts = new int[6];
                for (char letter : open.toCharArray()) {
                    parts[s.named(party, letter, judge)]++;
                }
                int greatest = Arrays.stream(parts).max().getAsInt();
                if (greatest < least) {
                    least = greatest;
                    best = judge;
                }
            }
            return best;
        }

        int count(int what) {
            int just = 0;
            for (int at = 0; at < s.next; at++) {
                just += s.just(at) ? 1 : 0;
            }
            int[] all = {s.parties(), s.lean.length, s.cases.length, s.next, s.sits,
                Arrays.stream(s.grievance).sum(), just, past.size(), tape.length()};
            return what < 0 || what >= all.length ? BAD : all[what];
        }
    }

    private static final class Draw {
        final Random random;

        Draw(long seed) {
            random = new Random(seed);
        }

        int below(int n) {
            return random.nextInt(n);
        }

        boolean oneIn(int n) {
            return below(n) == 0;
        }

        /** Mostly 0 to high, now and then just outside of it or far away. */
        int about(int high) {
            if (oneIn(40)) {
                int[] far = {-1, high + 1, -2, high + 2, Integer.MIN_VALUE, Integer.MAX_VALUE, 1 << 30};
                return far[below(far.length)];
            }
            return high < 0 ? 0 : below(high + 1);
        }

        String tape() {
            int p = 2 + below(5), j = oneIn(6) ? 1 : 2 + below(5), c = 1 + below(12);
            StringBuilder t = new StringBuilder("c");
            for (int i = 0; i < p; i++) {
                t.append(i == 0 ? "" : ",").append("pbslf".charAt(below(5))).append(below(10));
            }
            t.append(";");
            for (int i = 0; i < j; i++) {
                t.append(i == 0 ? "" : ",").append(below(10)).append(oneIn(3) ? "-" : "" + below(p));
            }
            t.append(";");
            for (int i = 0; i < c; i++) {
                int a = below(p);
                t.append(i == 0 ? "" : ",").append(a).append((a + 1 + below(p - 1)) % p).append(below(10));
            }
            return t.append(";").append(below(j)).toString();
        }

        String faulty() {
            StringBuilder t = new StringBuilder(tape());
            String signs = ",;-0123456789pbslfcx \u00ff\u0000";
            for (int k = 1 + below(2); k > 0; k--) {
                int at = below(t.length());
                switch (below(4)) {
                    case 0: t.setCharAt(at, signs.charAt(below(signs.length()))); break;
                    case 1: t.insert(at, signs.charAt(below(signs.length()))); break;
                    case 2: t.deleteCharAt(at); break;
                    default: t.setLength(at + 1); break;
                }
            }
            return t.toString();
        }
    }

    private static final int MOST_CALLS = 512;
    private static int wrong = 0;
    private static long calls = 0;

    private final LoserPicks x = new LoserPicks();
    private final Model m = new Model();
    private final List<String> story = new ArrayList<>();
    private final Draw draw;
    private boolean failed = false;

    private ModelTest(Draw draw) {
        this.draw = draw;
    }

    private void due(String call, long got, long want) {
        calls++;
        story.add(call + " = " + got);
        if (got != want && !failed) {
            failed = true;
            wrong++;
            System.out.println("wrong: " + call + " answered " + got + ", due is " + want + " behind " + story);
        }
    }

    private void read(String text) {
        for (char letter : text.toCharArray()) {
            due("feed(" + (int) letter + ")", x.feed(letter), m.feed(letter));
        }
        due("circuit()", x.circuit(), m.circuit());
    }

    private static String told(String name, int... v) {
        return name + Arrays.toString(v);
    }

    private void lookAt(int which) {
        int p = draw.about(m.s.parties() - 1), j = draw.about(m.s.lean.length - 1), c = draw.about(m.s.cases.length - 1);
        int what = draw.about(3);
        switch (which) {
            case 0: due(told("party", p, what), x.party(p, what), m.party(p, what)); break;
            case 1: what = draw.about(5); due(told("as", p, what), x.as(p, what), m.as(p, what)); break;
            case 2: due(told("judge", j, what), x.judge(j, what), m.judge(j, what)); break;
            case 3: due(told("trial", c, what), x.trial(c, what), m.trial(c, what)); break;
            case 4: due(told("finds", j, c), x.finds(j, c), m.finds(j, c)); break;
            case 5: due(told("names", p, j), x.names(p, j), m.names(p, j)); break;
            default: what = draw.about(8); due(told("count", what), x.count(what), m.count(what)); break;
        }
    }

    private void actOut(int which) {
        int p = draw.about(m.s.parties() - 1), j = draw.about(m.s.lean.length - 1), c = draw.about(m.s.cases.length - 1);
        int d = draw.about(m.s.cases.length - 1), k = draw.about(1), t = draw.about(2), lean = draw.about(9);
        switch (which) {
            case 0: due(told("hear", t), x.hear(t), m.hear(t)); break;
            case 1: due(told("swap", c, d), x.swap(c, d), m.swap(c, d)); break;
            case 2: due(told("soothe", p), x.soothe(p), m.soothe(p)); break;
            case 3: due(told("seat", j), x.seat(j), m.seat(j)); break;
            case 4: due(told("lean", j, lean), x.lean(j, lean), m.lean(j, lean)); break;
            case 5: due("undo()", x.undo(), m.undo()); break;
            case 6: due(told("image", k), x.image(k), m.image(k)); break;
            default: due(told("restore", k), x.restore(k), m.restore(k)); break;
        }
    }

    private void foretell(int which) {
        int p = draw.about(m.s.parties() - 1), b = draw.about(m.s.parties() - 1), c = draw.about(m.s.cases.length - 1);
        int n = draw.about(Math.min(m.left() + 1, 12)), what = draw.about(1), q = draw.about(10);
        switch (which) {
            case 0: due(told("ahead", n, what), x.ahead(n, what), m.ahead(n, what)); break;
            case 1: due(told("throwing", p, c), x.throwing(p, c), m.throwing(p, c)); break;
            case 2: due(told("worth", p), x.worth(p), m.worth(p)); break;
            case 3: n = draw.about(8); due(told("duel", p, b, n), x.duel(p, b, n), m.duel(p, b, n)); break;
            case 4:
                n = draw.about(draw.oneIn(4) ? 6 : 5);
                q = draw.about(7) - 1;
                due(told("order", n, q), x.order(n, q), m.order(n, q));
                break;
            case 5: due(told("round", c, what), x.round(c, what), m.round(c, what)); break;
            case 6: if (draw.oneIn(3)) { due(told("bench", p), x.bench(p), m.bench(p)); } break;
            case 7:
                n = draw.about(5) + 1;
                due(told("errors", p, n, q, what), x.errors(p, n, q, what), m.errors(p, n, q, what));
                break;
            default:
                n = draw.about(60);
                int seed = draw.oneIn(9) ? draw.below(3) + (draw.oneIn(2) ? 0 : 999998) : 1 + draw.below(999999);
                due(told("decades", n, seed, what), x.decades(n, seed, what), m.decades(n, seed, what));
                break;
        }
    }

    private void useSheets(int which) {
        int s = draw.about(3), t = draw.about(3), n = draw.about(6), i = draw.about(4), j = draw.about(4);
        int lane = s >= 0 && s < 4 && !draw.oneIn(15) ? m.lanes[s] : draw.about(3), what = draw.about(1);
        int p = draw.about(m.s.parties() - 1), judge = draw.about(m.s.lean.length - 1);
        switch (which) {
            case 0: lane = draw.about(3); n = draw.about(24);
                due(told("sheet", s, lane, n), x.sheet(s, lane, n), m.sheet(s, lane, n)); break;
            case 1: if (draw.oneIn(5)) { due(told("drop", s), x.drop(s), m.drop(s)); } break;
            case 2: i = draw.about(23); long v = draw.random.nextLong() >> draw.below(64);
                due(told("item", s, lane, i) + v, x.item(s, lane, i, v), m.item(s, lane, i, v)); break;
            case 3: due(told("copy", s, i, t, j, n), x.copy(s, i, t, j, n), m.copy(s, i, t, j, n)); break;
            case 4: n = draw.about(Math.max(m.left(), 1));
                due(told("log", s, lane, i, n), x.log(s, lane, i, n), m.log(s, lane, i, n)); break;
            case 5: n = draw.oneIn(3) ? draw.about(11) : 1 + draw.below(3); layFindings(s, i, n, judge);
                due(told("leans", judge, s, lane, i, n, what), x.leans(judge, s, lane, i, n, what),
                    m.leans(judge, s, lane, i, n, what)); break;
            case 6: n = draw.oneIn(3) ? draw.about(11) : 1 + draw.below(3); layNamings(s, i, n, p);
                due(told("kinds", p, s, lane, i, n, what), x.kinds(p, s, lane, i, n, what),
                    m.kinds(p, s, lane, i, n, what)); break;
            default: lookThrough(s); break;
        }
    }

    private void set(int s, int i, long v) {
        if (s >= 0 && s < 4 && !draw.oneIn(30)) {
            due(told("item", s, m.lanes[s], i) + v, x.item(s, m.lanes[s], i, v), m.item(s, m.lanes[s], i, v));
        }
    }

    private void layFindings(int s, int i, int n, int judge) {
        int lean = draw.below(10);
        for (int k = 0; k < n && k < 10 && m.j(judge) && m.s.cases.length > 0; k++) {
            int at = draw.below(m.s.cases.length);
            State t = m.s.twin();
            t.lean[judge] = lean;
            int side = t.found(judge, t.cases[at]) == t.cases[at][0] ? 0 : 1;
            set(s, i + 2 * k, at);
            set(s, i + 2 * k + 1, draw.oneIn(20) ? draw.about(1) : side);
        }
    }

    private void layNamings(int s, int i, int n, int party) {
        char letter = "pbslf".charAt(draw.below(5));
        for (int k = 0; k < n && k < 10 && m.p(party); k++) {
            int judge = draw.below(m.s.lean.length);
            set(s, i + 2 * k, judge);
            set(s, i + 2 * k + 1, draw.oneIn(20) ? draw.about(m.s.lean.length - 1) : m.s.named(party, letter, judge));
        }
    }

    /** No call tells an item as it is, but what pairs of them leave open does so roundabout. */
    private void lookThrough(int s) {
        if (s >= 0 && s < 4 && m.sheets[s] != null && m.s.cases.length > 0) {
            int lane = m.lanes[s];
            for (int i = 0; i + 1 < m.sheets[s].length; i++) {
                due(told("leans", 0, s, lane, i, 1, 0), x.leans(0, s, lane, i, 1, 0), m.leans(0, s, lane, i, 1, 0));
                due(told("kinds", 0, s, lane, i, 1, 0), x.kinds(0, s, lane, i, 1, 0), m.kinds(0, s, lane, i, 1, 0));
            }
        }
    }

    private void lookAtAll() {
        for (int p = 0; p < m.s.parties(); p++) {
            for (int what = 0; what < 4; what++) {
                due(told("party", p, what), x.party(p, what), m.party(p, what));
            }
        }
        for (int at = 0; at < m.s.cases.length; at++) {
            due(told("trial", at, 2), x.trial(at, 2), m.trial(at, 2));
            due(told("trial", at, 3), x.trial(at, 3), m.trial(at, 3));
        }
        for (int what = 0; what < 9; what++) {
            due(told("count", what), x.count(what), m.count(what));
        }
    }

    private void run() {
        if (!draw.oneIn(10)) {
            read(draw.tape());
        }
        int acting = 1 + draw.below(6);
        while (story.size() < MOST_CALLS - 150 && !failed) {
            int kind = draw.below(10);
            if (draw.oneIn(150)) {
                read(draw.oneIn(2) ? draw.tape() : draw.faulty());
            } else if (kind < acting) {
                actOut(draw.oneIn(12) ? 5 + draw.below(3) : draw.below(draw.oneIn(3) ? 6 : 5));
            } else if (kind < 8) {
                foretell(draw.below(9));
            } else if (kind == 8) {
                useSheets(draw.below(8));
            } else {
                lookAt(draw.below(7));
            }
        }
        lookAtAll();
    }

    private static void readFaults(Draw draw, int n) {
        for (int k = 0; k < n; k++) {
            ModelTest test = new ModelTest(draw);
            test.read(draw.tape());
            test.read(draw.faulty());
            test.lookAtAll();
        }
    }

    private static void fillTape(Draw draw) {
        ModelTest test = new ModelTest(draw);
        for (int k = 0; k < 135; k++) {
            int letter = draw.about(255);
            test.due("feed " + letter, test.x.feed(letter), test.m.feed(letter));
        }
        test.lookAtAll();
        test.due("circuit()", test.x.circuit(), test.m.circuit());
        test.lookAtAll();
    }

    public static void main(String[] args) {
        int runs = args.length > 0 ? Integer.parseInt(args[0]) : 300;
        long seed = args.length > 1 ? Long.parseLong(args[1]) : 1;
        Draw draw = new Draw(seed);
        readFaults(draw, runs);
        fillTape(draw);
        for (int k = 0; k < runs && wrong < 5; k++) {
            new ModelTest(draw).run();
        }
        System.out.println(wrong == 0 ? "all " + calls + " answers are those of the model" : wrong + " runs went wrong");
        if (wrong != 0) {
            System.exit(1);
        }
    }
}
