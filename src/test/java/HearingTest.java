import java.math.BigInteger;
import java.util.ArrayList;
import java.util.Arrays;
import java.util.List;

/** What is foretold is held against what comes when cases are heard for real, in each way that there is, on new objects. */
public final class HearingTest extends Checks {
    private static final String[] TEXTS = {
        ALL, MOST,
        "cl0,s0;9-,9-,9-,9-,9-,0-;019,018,109,015,014,108,019,018;0",
        "cp0,b9;5-,70,21,9-;015,106,014,107,013,018,105,102;2",
        "cf1,l2,b3;41,9-,30,02,6-;015,124,206,105,214,023,017,128;3",
        "cb0,f0;4-,90,0-;015,014,106,105,019,101;1",
        "cs9,s8;5-;014,015,104,105,010;0",
        "cl0,l0,p0,f0,b0,s0;9-,0-,5-,45,33,71;014,235,454,035,124,505,019;4",
    };

    private final String text;
    private final int start;
    private final int parties, cases, judges;
    private final int[] plaintiff, defendant, wins;

    private HearingTest(String text, int start) {
        this.text = text;
        this.start = start;
        LoserPicks x = played(new int[0]);
        parties = x.count(0);
        judges = x.count(1);
        cases = x.count(2);
        plaintiff = new int[cases];
        defendant = new int[cases];
        wins = new int[parties];
        for (int at = 0; at < cases; at++) {
            plaintiff[at] = x.trial(at, 0);
            defendant[at] = x.trial(at, 1);
        }
        for (int p = 0; p < parties; p++) {
            wins[p] = x.party(p, 2);
        }
    }

    /** A new object with the same cases heard, and behind these some more, thrown as told. */
    private LoserPicks played(int[] throwing) {
        LoserPicks y = of(text);
        hear(y, start);
        for (int t : throwing) {
            y.hear(t);
        }
        return y;
    }

    /** Who throws in the next n cases when a party throws a set of them. */
    private int[] throwsOf(int party, int set, int n) {
        int[] throwing = new int[n];
        for (int k = 0; k < n; k++) {
            throwing[k] = (set >> start + k & 1) == 0 ? 0 : plaintiff[start + k] == party ? 1 : 2;
        }
        return throwing;
    }

    private boolean isOwn(int party, int at) {
        return plaintiff[at] == party || defendant[at] == party;
    }

    private List<Integer> setsAhead(int party, int end) {
        int own = 0;
        for (int at = start; at < end; at++) {
            own |= isOwn(party, at) ? 1 << at : 0;
        }
        List<Integer> sets = new ArrayList<>();
        for (int set = 0; set <= own; set++) {
            if ((set & ~own) == 0) {
                sets.add(set);
            }
        }
        return sets;
    }

    private void checkAhead() {
        sentence("18 and 31: ahead and log, " + text);
        for (int n = 0; n <= cases - start; n++) {
            LoserPicks heard = played(new int[n]);
            LoserPicks y = played(new int[0]);
            due(y.ahead(n, 0), n == 0 ? NONE : heard.trial(start + n - 1, 3));
            due(y.ahead(n, 1), heard.count(4));
            y.sheet(0, 0, 14);
            if (n > 0) {
                due(y.log(0, 0, 0, n), n);
                for (int k = 0; k < n; k++) {
                    due(seen(y, 0, 0, k), heard.trial(start + k, 3));
                }
            }
        }
    }

    private void checkThrows() {
        sentence("19: throwing, " + text);
        for (int party = 0; party < parties; party++) {
            for (int at = 0; at < cases; at++) {
                int answer = played(new int[0]).throwing(party, at);
                if (at < start || !isOwn(party, at)) {
                    due(answer, NOT);
                    continue;
                }
                int best = NONE;
                for (int set : setsAhead(party, at)) {
                    boolean fewer = best == NONE || Integer.bitCount(set) < Integer.bitCount(best);
                    if (fewer && played(throwsOf(party, set, at - start)).hear(0) == party) {
                        best = set;
                    }
                }
                due(answer, best);
            }
        }
    }

    private void checkWorth() {
        sentence("20: worth, " + text);
        for (int party = 0; party < parties; party++) {
            int most = 0;
            for (int set : setsAhead(party, cases)) {
                most = Math.max(most, played(throwsOf(party, set, cases - start)).party(party, 2) - wins[party]);
            }
            due(played(new int[0]).worth(party), most);
        }
    }

    private int duelled(int a, int b, int[] throwing, int n) {
        if (throwing.length == n) {
            LoserPicks y = played(throwing);
            return y.party(a, 2) - wins[a] - (y.party(b, 2) - wins[b]);
        }
        int at = start + throwing.length;
        int[] more = Arrays.copyOf(throwing, throwing.length + 1);
        int value = duelled(a, b, more, n);
        if (isOwn(b, at)) {
            more[throwing.length] = plaintiff[at] == b ? 1 : 2;
            value = Math.min(value, duelled(a, b, more, n));
        }
        if (isOwn(a, at)) {
            more[throwing.length] = plaintiff[at] == a ? 1 : 2;
            value = Math.max(value, duelled(a, b, more, n));
        }
        return value;
    }

    private void checkDuels() {
        sentence("21: duel, " + text);
        for (int a = 0; a < parties; a++) {
            for (int b = 0; b < parties; b++) {
                for (int n = 0; n <= 8 && a != b; n++) {
                    due(played(new int[0]).duel(a, b, n), 100 + duelled(a, b, new int[0], Math.min(n, cases - start)));
                }
            }
        }
    }

    private int bestJust;
    private List<Integer> bestOrder;

    /** Tries all orders of the next n, those that are first by numbers ahead. */
    private void tryOrders(List<Integer> done, int n) {
        if (done.size() == n) {
            String[] parts = text.split(";");
            String[] all = parts[2].split(",");
            String[] moved = all.clone();
            for (int k = 0; k < n; k++) {
                moved[start + k] = all[done.get(k)];
            }
            LoserPicks y = of(parts[0] + ";" + parts[1] + ";" + String.join(",", moved) + ";" + parts[3]);
            hear(y, start);
            int before = y.count(6);
            hear(y, n);
            if (y.count(6) - before > bestJust) {
                bestJust = y.count(6) - before;
                bestOrder = new ArrayList<>(done);
            }
            return;
        }
        for (int at = start; at < start + n; at++) {
            if (!done.contains(at)) {
                done.add(at);
                tryOrders(done, n);
                done.remove(done.size() - 1);
            }
        }
    }

    private void checkOrders() {
        sentence("22: order, " + text);
        for (int n = 0; n <= 6 && n <= cases - start; n++) {
            bestJust = -1;
            tryOrders(new ArrayList<>(), n);
            LoserPicks y = played(new int[0]);
            due(y.order(n, -1), bestJust);
            for (int k = 0; k < n; k++) {
                due(y.order(n, k), bestOrder.get(k));
            }
            due(y.order(n, n), NONE);
        }
    }

    private void checkErrors() {
        sentence("25: errors, " + text);
        for (int n = 1; n <= 6 && n <= cases - start; n++) {
            for (int q = 0; q <= 10; q++) {
                long[] above = new long[parties];
                long below = 1;
                for (int set = 0; set < 1 << n; set++) {
                    LoserPicks y = played(new int[0]);
                    long part = 1;
                    int won = NONE;
                    for (int k = 0; k < n; k++) {
                        int found = y.finds(y.count(4), start + k);
                        boolean error = (set >> k & 1) == 1;
                        won = y.hear(!error ? 0 : found == y.trial(start + k, 0) ? 1 : 2);
                        part *= error ? q : 10 - q;
                    }
                    above[won] += part;
                }
                for (int k = 0; k < n; k++) {
                    below *= 10;
                }
                LoserPicks y = played(new int[0]);
                for (int p = 0; p < parties; p++) {
                    int over = y.errors(p, n, q, 0), under = y.errors(p, n, q, 1);
                    due(over * below, above[p] * under);
                    due(BigInteger.valueOf(over).gcd(BigInteger.valueOf(under)).intValue(), 1);
                }
            }
        }
    }

    private void checkDecades() {
        sentence("26: decades, " + text);
        for (int seed : new int[] {1, 5, 77, 31415, 999999}) {
            long draws = seed;
            int[] throwing = new int[cases - start];
            for (int k = 0; k < throwing.length; k++) {
                draws = draws * 16807 % 2147483647L;
                throwing[k] = draws / 8 % 5 == 0 ? 1 : draws / 8 % 5 == 1 ? 2 : 0;
            }
            for (int n = 0; n <= throwing.length; n++) {
                LoserPicks heard = played(Arrays.copyOf(throwing, n));
                LoserPicks y = played(new int[0]);
                due(y.decades(n, seed, 0), heard.count(5));
                due(y.decades(n, seed, 1), heard.count(4));
            }
        }
    }

    /** What a judge finds when he has each lean, and what each kind names, is asked of the class itself. */
    private void checkClues() {
        sentence("32: leans, " + text);
        for (int judge = 0; judge < judges; judge++) {
            int[][] found = new int[10][cases];
            for (int lean = 0; lean <= 9; lean++) {
                LoserPicks y = played(new int[0]);
                y.lean(judge, lean);
                for (int at = 0; at < cases; at++) {
                    found[lean][at] = y.finds(judge, at) == y.trial(at, 0) ? 0 : 1;
                }
            }
            for (int at = 0; at < cases; at++) {
                for (int side = 0; side <= 1; side++) {
                    LoserPicks y = played(new int[0]);
                    lay(y, 1, 1, at, side);
                    checkLeans(y, judge, found, at, side);
                }
            }
        }
        sentence("33: kinds, " + text);
        for (int party = 0; party < parties; party++) {
            for (int sat = 0; sat < judges; sat++) {
                for (int named = 0; named < judges; named++) {
                    LoserPicks y = played(new int[0]);
                    lay(y, 1, 1, sat, named);
                    checkKinds(y, party, sat, named);
                }
            }
        }
    }

    private void checkLeans(LoserPicks y, int judge, int[][] found, int at, int side) {
        int set = 0;
        for (int lean = 0; lean <= 9; lean++) {
            set |= found[lean][at] == side ? 1 << lean : 0;
        }
        int best = NONE, least = 99;
        for (int c = 0; c < cases; c++) {
            int[] parts = new int[2];
            for (int lean = 0; lean <= 9; lean++) {
                parts[found[lean][c]] += set >> lean & 1;
            }
            if (Math.max(parts[0], parts[1]) < least) {
                best = c;
                least = Math.max(parts[0], parts[1]);
            }
        }
        due(y.leans(judge, 1, 1, 0, 1, 0), set);
        due(y.leans(judge, 1, 1, 0, 1, 1), set == 0 ? NONE : best);
    }

    /** The same circuit, but for the letter of a party. */
    private int namedAs(int party, char letter, int judge) {
        StringBuilder other = new StringBuilder(text);
        other.setCharAt(1 + 3 * party, letter);
        return of(other.toString()).names(party, judge);
    }

    private void checkKinds(LoserPicks y, int party, int sat, int named) {
        int set = 0;
        for (int kind = 1; kind <= 5; kind++) {
            set |= namedAs(party, "pbslf".charAt(kind - 1), sat) == named ? 1 << kind : 0;
        }
        due(y.kinds(party, 1, 1, 0, 1, 0), set);
        int best = NONE, least = 99;
        for (int judge = 0; judge < judges && set != 0; judge++) {
            int[] parts = new int[judges];
            int greatest = 0;
            for (int kind = 1; kind <= 5; kind++) {
                if ((set >> kind & 1) == 1) {
                    int who = namedAs(party, "pbslf".charAt(kind - 1), judge);
                    parts[who]++;
                    greatest = Math.max(greatest, parts[who]);
                }
            }
            if (greatest < least) {
                best = judge;
                least = greatest;
            }
        }
        due(y.kinds(party, 1, 1, 0, 1, 1), best);
    }

    public static void main(String[] args) {
        for (String text : TEXTS) {
            for (int start = 0; start <= 4; start += 2) {
                HearingTest test = new HearingTest(text, start);
                test.checkAhead();
                test.checkThrows();
                test.checkWorth();
                test.checkDuels();
                test.checkOrders();
                test.checkErrors();
                test.checkDecades();
            }
            new HearingTest(text, 0).checkClues();
        }
        finish("hearings");
    }
}
