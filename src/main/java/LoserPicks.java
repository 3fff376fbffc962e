import java.util.Arrays;

/** A circuit of courts in which whoever lost the last case names the judge of the next one. */
public final class LoserPicks {
    public static final int BAD = -1, NOT = -2, FULL = -3, NONE = -4, NULL = -11, CAST = -12, INDEX = -13, SIZE = -14;

    private static final int LEAST_PARTIES = 2, MOST_PARTIES = 6, MOST_JUDGES = 6, MOST_CASES = 12;
    private static final int MOST_BYTES = 130, MOST_ACTS = 24, MOST_GRIEVANCE = 20, GRIEVANCES = MOST_GRIEVANCE + 1;
    private static final int SHEETS = 4, LANES = 4, MOST_ITEMS = 24, IMAGES = 2;
    private static final int MOST_ORDERED = 6, MOST_DUELLED = 8, MOST_ERRORS = 6, MOST_DECADES = 60, MOST_PAIRS = 10;
    private static final int MOST_SEED = 999999, FAULT_BASE = -100, DUEL_BASE = 100;

    private static final int PARTY = 0, PLAIN = 1, BITTER = 2, SAINT = 3, LAUGHER = 4, FEARED = 5;
    private static final int[] KIND_ABOVE = {-1, PARTY, PLAIN, PLAIN, PARTY, BITTER};

    private static final int NOBODY_THROWS = 0, PLAINTIFF_THROWS = 1, DEFENDANT_THROWS = 2;
    private static final int HEARD = 0, SWAPPED = 1, SOOTHED = 2, SEATED = 3, LEANED = 4;

    private final Tape tape;
    private final History history;
    private final Foretelling foretelling;
    private final Clues clues;
    private final Circuit[] images;
    private final Sheet[] sheets;
    private Circuit now;
    private Circuit spare;

    public LoserPicks() {
        tape = new Tape();
        history = new History();
        foretelling = new Foretelling();
        clues = new Clues();
        images = new Circuit[IMAGES];
        for (int k = 0; k < IMAGES; k++) {
            images[k] = new Circuit();
        }
        sheets = new Sheet[SHEETS];
        for (int s = 0; s < SHEETS; s++) {
            sheets[s] = new Sheet();
        }
        now = new Circuit();
        spare = new Circuit();
    }

    // ---- 1 what is told

    public int feed(int letter) {
        if (letter < 0 || letter > 255) {
            return BAD;
        }
        return tape.append(letter) ? tape.size : FULL;
    }

    public int circuit() {
        boolean whole = tape.readInto(spare);
        int place = tape.place;
        tape.size = 0;
        if (!whole) {
            return FAULT_BASE - place;
        }
        Circuit before = now;
        now = spare;
        spare = before;
        history.size = 0;
        return now.cases;
    }

    public int party(int party, int what) {
        if (!now.hasParty(party)) {
            return BAD;
        }
        switch (what) {
            case 0: return now.kind[party];
            case 1: return now.grievance[party];
            case 2: return now.wins[party];
            case 3: return now.namedBy(party, now.sits);
            default: return BAD;
        }
    }

    public int as(int party, int kind) {
        if (!now.hasParty(party) || kind < PARTY || kind > FEARED) {
            return BAD;
        }
        return isUnder(now.kind[party], kind) ? party : CAST;
    }

    public int judge(int judge, int what) {
        if (!now.hasJudge(judge)) {
            return BAD;
        }
        switch (what) {
            case 0: return now.lean[judge];
            case 1: return now.favours[judge];
            case 2: return now.sits == judge ? 1 : 0;
            default: return BAD;
        }
    }

    public int trial(int at, int what) {
        if (!now.hasCase(at)) {
            return BAD;
        }
        switch (what) {
            case 0: return now.plaintiff[at];
            case 1: return now.defendant[at];
            case 2: return now.weight[at];
            case 3: return now.winner[at];
            default: return BAD;
        }
    }

    public int finds(int judge, int at) {
        if (!now.hasJudge(judge) || !now.hasCase(at)) {
            return BAD;
        }
        return now.winnerBefore(judge, at);
    }

    public int names(int party, int judge) {
        if (!now.hasParty(party) || !now.hasJudge(judge)) {
            return BAD;
        }
        return now.namedBy(party, judge);
    }

    // ---- 2 acts

    public int hear(int throwing) {
        if (throwing < NOBODY_THROWS || throwing > DEFENDANT_THROWS) {
            return BAD;
        }
        if (now.casesLeft() == 0) {
            return NOT;
        }
        int at = now.next;
        Act act = history.begin(HEARD, at, at);
        act.before = now.grievance[now.plaintiff[at]];
        act.beforeOther = now.grievance[now.defendant[at]];
        act.sat = now.sits;
        now.settle(at, throwing);
        now.next = at + 1;
        return now.winner[at];
    }

    public int swap(int one, int other) {
        if (!now.hasCase(one) || !now.hasCase(other)) {
            return BAD;
        }
        if (one == other || one < now.next || other < now.next) {
            return NOT;
        }
        history.begin(SWAPPED, one, other);
        now.exchange(one, other);
        return now.next;
    }

    public int soothe(int party) {
        if (!now.hasParty(party)) {
            return BAD;
        }
        if (now.grievance[party] == 0) {
            return NOT;
        }
        history.begin(SOOTHED, party, party).before = now.grievance[party];
        now.grievance[party] = Math.max(now.grievance[party] - 3, 0);
        return now.grievance[party];
    }

    public int seat(int judge) {
        if (!now.hasJudge(judge)) {
            return BAD;
        }
        if (now.sits == judge) {
            return NOT;
        }
        int sat = now.sits;
        history.begin(SEATED, judge, judge).sat = sat;
        now.sits = judge;
        return sat;
    }

    public int lean(int judge, int lean) {
        if (!now.hasJudge(judge) || lean < 0 || lean > 9) {
            return BAD;
        }
        int before = now.lean[judge];
        if (before == lean) {
            return NOT;
        }
        history.begin(LEANED, judge, judge).before = before;
        now.lean[judge] = lean;
        return before;
    }

    public int undo() {
        if (history.size == 0) {
            return NONE;
        }
        history.latest().takeBack(now);
        history.forgetLatest();
        return history.size;
    }

    public int image(int k) {
        if (k < 0 || k >= IMAGES) {
            return BAD;
        }
        if (!now.isThere()) {
            return NOT;
        }
        images[k].become(now);
        return now.next;
    }

    public int restore(int k) {
        if (k < 0 || k >= IMAGES) {
            return BAD;
        }
        if (!images[k].isThere()) {
            return NOT;
        }
        now.become(images[k]);
        history.size = 0;
        return now.next;
    }

    // ---- 3 foretold

    public int ahead(int n, int what) {
        if (n < 0 || n > MOST_CASES || !isFirstOrSecond(what)) {
            return BAD;
        }
        if (!now.isThere()) {
            return NOT;
        }
        if (n > now.casesLeft()) {
            return NONE;
        }
        hearInSpare(n);
        if (what == 1) {
            return spare.sits;
        }
        return n == 0 ? NONE : spare.winner[now.next + n - 1];
    }

    public int throwing(int party, int at) {
        if (!now.hasParty(party) || !now.hasCase(at)) {
            return BAD;
        }
        if (!now.isOwn(party, at) || at < now.next) {
            return NOT;
        }
        return foretelling.fewestThrows(now, party, at);
    }

    public int worth(int party) {
        if (!now.hasParty(party)) {
            return BAD;
        }
        return foretelling.contest(now, party, NONE, now.casesLeft());
    }

    public int duel(int a, int b, int n) {
        if (!now.hasParty(a) || !now.hasParty(b) || a == b || n < 0 || n > MOST_DUELLED) {
            return BAD;
        }
        return DUEL_BASE + foretelling.contest(now, a, b, Math.min(n, now.casesLeft()));
    }

    public int order(int n, int k) {
        if (n < 0 || n > MOST_ORDERED || k < -1) {
            return BAD;
        }
        if (!now.isThere()) {
            return NOT;
        }
        if (n > now.casesLeft() || k >= n) {
            return NONE;
        }
        foretelling.weighOrders(now, n);
        return k == -1 ? foretelling.mostJust(now.sits) : now.next + foretelling.placedAt(now, n, k);
    }

    public int round(int at, int what) {
        if (!now.hasCase(at) || !isFirstOrSecond(what)) {
            return BAD;
        }
        spare.become(now);
        int period = foretelling.period(spare, at, now.stateOf(at));
        return what == 1 ? period : foretelling.leadIn(spare, at, now.stateOf(at), period);
    }

    public int bench(int party) {
        if (!now.hasParty(party)) {
            return BAD;
        }
        return foretelling.benchOf(now, party);
    }

    public int errors(int party, int n, int q, int what) {
        if (!now.hasParty(party) || n < 1 || n > MOST_ERRORS || q < 0 || q > 10 || !isFirstOrSecond(what)) {
            return BAD;
        }
        if (n > now.casesLeft()) {
            return NONE;
        }
        int above = foretelling.oddsOfLast(now, party, n, q);
        int below = 1;
        for (int i = 0; i < n; i++) {
            below *= 10;
        }
        int shared = commonDivisor(above, below);
        if (shared == 0) {
            return BAD;
        }
        return (what == 0 ? above : below) / shared;
    }

    public int decades(int n, int seed, int what) {
        if (n < 0 || n > MOST_DECADES || seed < 1 || seed > MOST_SEED || !isFirstOrSecond(what)) {
            return BAD;
        }
        if (!now.isThere()) {
            return NOT;
        }
        spare.become(now);
        spare.hearByDraws(n, seed);
        return what == 0 ? spare.allGrievance() : spare.sits;
    }

    // ---- 4 sheets

    public int sheet(int sheet, int lane, int n) {
        if (!isSheet(sheet) || !isLane(lane) || n > MOST_ITEMS) {
            return BAD;
        }
        if (n < 0) {
            return SIZE;
        }
        sheets[sheet].lay(lane, n);
        return n;
    }

    public int drop(int sheet) {
        if (!isSheet(sheet)) {
            return BAD;
        }
        if (!sheets[sheet].held) {
            return NULL;
        }
        sheets[sheet].held = false;
        return sheets[sheet].size;
    }

    public long item(int sheet, int lane, int i, long v) {
        if (!isSheet(sheet) || !isLane(lane)) {
            return BAD;
        }
        int refused = sheets[sheet].refusal(lane, i, 1);
        return refused != 0 ? refused : sheets[sheet].put(i, v);
    }

    public int copy(int from, int i, int to, int j, int n) {
        if (!isSheet(from) || !isSheet(to)) {
            return BAD;
        }
        Sheet source = sheets[from];
        Sheet target = sheets[to];
        if (!source.held || !target.held) {
            return NULL;
        }
        if (source.lane != target.lane) {
            return CAST;
        }
        if (!source.reaches(i, n) || !target.reaches(j, n)) {
            return INDEX;
        }
        System.arraycopy(source.items, i, target.items, j, n);
        return n;
    }

    public int log(int sheet, int lane, int i, int n) {
        if (!isSheet(sheet) || !isLane(lane) || n < 1 || n > MOST_CASES) {
            return BAD;
        }
        int refused = sheets[sheet].refusal(lane, i, n);
        if (refused != 0) {
            return refused;
        }
        if (n > now.casesLeft()) {
            return NOT;
        }
        hearInSpare(n);
        for (int k = 0; k < n; k++) {
            sheets[sheet].put(i + k, spare.winner[now.next + k]);
        }
        return n;
    }

    public int leans(int judge, int sheet, int lane, int i, int n, int what) {
        if (!now.hasJudge(judge) || !arePairsTold(sheet, lane, n) || !isFirstOrSecond(what)) {
            return BAD;
        }
        int refused = sheets[sheet].refusal(lane, i, 2 * n);
        if (refused != 0) {
            return refused;
        }
        if (!clues.take(sheets[sheet], i, n, now.cases, 2)) {
            return NOT;
        }
        int set = clues.leansOf(now, judge);
        return what == 0 ? set : clues.caseToTry(now, judge, set);
    }

    public int kinds(int party, int sheet, int lane, int i, int n, int what) {
        if (!now.hasParty(party) || !arePairsTold(sheet, lane, n) || !isFirstOrSecond(what)) {
            return BAD;
        }
        int refused = sheets[sheet].refusal(lane, i, 2 * n);
        if (refused != 0) {
            return refused;
        }
        if (!clues.take(sheets[sheet], i, n, now.judges, now.judges)) {
            return NOT;
        }
        int set = clues.kindsOf(now, party);
        return what == 0 ? set : clues.judgeToTry(now, party, set);
    }

    public int count(int what) {
        switch (what) {
            case 0: return now.parties;
            case 1: return now.judges;
            case 2: return now.cases;
            case 3: return now.next;
            case 4: return now.sits;
            case 5: return now.allGrievance();
            case 6: return now.justlyWon();
            case 7: return history.size;
            case 8: return tape.size;
            default: return BAD;
        }
    }

    // ---- helpers of the face

    private static boolean isUnder(int kind, int above) {
        int k = kind;
        for (int level = 0; level <= FEARED && k >= 0 && k <= FEARED; level++) {
            if (k == above) {
                return true;
            }
            k = KIND_ABOVE[k];
        }
        return false;
    }

    private static boolean isFirstOrSecond(int what) {
        return what == 0 || what == 1;
    }

    private static boolean isSheet(int sheet) {
        return sheet >= 0 && sheet < SHEETS;
    }

    private static boolean isLane(int lane) {
        return lane >= 0 && lane < LANES;
    }

    private static boolean arePairsTold(int sheet, int lane, int n) {
        return isSheet(sheet) && isLane(lane) && n >= 1 && n <= MOST_PAIRS;
    }

    private static int commonDivisor(int one, int other) {
        int a = one;
        int b = other;
        for (int steps = 0; steps < 100 && b != 0; steps++) {
            int rest = a % b;
            a = b;
            b = rest;
        }
        return a;
    }

    /** The spare circuit is free between two readings of the tape, so what is foretold is heard there. */
    private void hearInSpare(int n) {
        spare.become(now);
        for (int k = 0; k < n; k++) {
            spare.settle(now.next + k, NOBODY_THROWS);
        }
    }

    /** Parties, judges and cases as they stand; without a case it is no circuit at all. */
    private static final class Circuit {
        final int[] kind = new int[MOST_PARTIES];
        final int[] grievance = new int[MOST_PARTIES];
        final int[] wins = new int[MOST_PARTIES];
        final int[] lean = new int[MOST_JUDGES];
        final int[] favours = new int[MOST_JUDGES];
        final int[] plaintiff = new int[MOST_CASES];
        final int[] defendant = new int[MOST_CASES];
        final int[] weight = new int[MOST_CASES];
        final int[] winner = new int[MOST_CASES];
        int parties = 0;
        int judges = 0;
        int cases = 0;
        int next = 0;
        int sits = NONE;

        void clear() {
            parties = 0;
            judges = 0;
            cases = 0;
            next = 0;
            sits = NONE;
        }

        void become(Circuit other) {
            System.arraycopy(other.kind, 0, kind, 0, MOST_PARTIES);
            System.arraycopy(other.grievance, 0, grievance, 0, MOST_PARTIES);
            System.arraycopy(other.wins, 0, wins, 0, MOST_PARTIES);
            System.arraycopy(other.lean, 0, lean, 0, MOST_JUDGES);
            System.arraycopy(other.favours, 0, favours, 0, MOST_JUDGES);
            System.arraycopy(other.plaintiff, 0, plaintiff, 0, MOST_CASES);
            System.arraycopy(other.defendant, 0, defendant, 0, MOST_CASES);
            System.arraycopy(other.weight, 0, weight, 0, MOST_CASES);
            System.arraycopy(other.winner, 0, winner, 0, MOST_CASES);
            parties = other.parties;
            judges = other.judges;
            cases = other.cases;
            next = other.next;
            sits = other.sits;
        }

        boolean isThere() {
            return cases > 0;
        }

        boolean hasParty(int party) {
            return party >= 0 && party < parties;
        }

        boolean hasJudge(int judge) {
            return judge >= 0 && judge < judges;
        }

        boolean hasCase(int at) {
            return at >= 0 && at < cases;
        }

        int casesLeft() {
            return cases - next;
        }

        boolean isOwn(int party, int at) {
            return plaintiff[at] == party || defendant[at] == party;
        }

        int opponentOf(int party, int at) {
            return plaintiff[at] == party ? defendant[at] : plaintiff[at];
        }

        /** What stands against the lean of a judge: he finds for the plaintiff if it is no less. */
        int pleaBefore(int judge, int at) {
            int plea = weight[at];
            if (favours[judge] == plaintiff[at]) {
                plea += 2;
            }
            if (favours[judge] == defendant[at]) {
                plea -= 2;
            }
            return plea;
        }

        int winnerBefore(int judge, int at) {
            return pleaBefore(judge, at) >= lean[judge] ? plaintiff[at] : defendant[at];
        }

        int justWinner(int at) {
            return weight[at] >= 5 ? plaintiff[at] : defendant[at];
        }

        int namedBy(int party, int judge) {
            return namedAs(party, kind[party], judge);
        }

        int namedAs(int party, int asKind, int judge) {
            if (asKind == SAINT || judges < 2) {
                return judge;
            }
            if (asKind == LAUGHER) {
                return judge + 1 < judges ? judge + 1 : 0;
            }
            return likedBest(party, asKind, 1 << judge);
        }

        /** The judge liked best but for a set of barred ones; NONE: all are barred. */
        int likedBest(int party, int asKind, int barred) {
            int best = NONE;
            int bestLiking = 0;
            for (int judge = 0; judge < judges; judge++) {
                int liking = likingOf(party, asKind, judge);
                if ((barred >> judge & 1) == 0 && (best == NONE || liking > bestLiking)) {
                    best = judge;
                    bestLiking = liking;
                }
            }
            return best;
        }

        private int likingOf(int party, int asKind, int judge) {
            switch (asKind) {
                case BITTER: return lean[judge];
                case FEARED: return favours[judge] == party ? lean[judge] + 5 : lean[judge];
                case LAUGHER: return -judge;
                default: return -lean[judge];
            }
        }

        int sitsAfter(int judge, int at, int won) {
            int lost = opponentOf(won, at);
            return namedAs(lost, kind[lost], judge);
        }

        private int hurtOf(int party, int heavy) {
            switch (kind[party]) {
                case BITTER: return 2 * heavy;
                case FEARED: return 2 * heavy + 1;
                case SAINT: return 0;
                case LAUGHER: return 1;
                default: return heavy;
            }
        }

        /** Hears a case, whichever it is; which one is next does not change here. */
        void settle(int at, int throwing) {
            int won = winnerBefore(sits, at);
            if (throwing == PLAINTIFF_THROWS) {
                won = defendant[at];
            } else if (throwing == DEFENDANT_THROWS) {
                won = plaintiff[at];
            }
            int lost = opponentOf(won, at);
            winner[at] = won;
            wins[won]++;
            grievance[won] = Math.max(grievance[won] - 1, 0);
            grievance[lost] = Math.min(grievance[lost] + hurtOf(lost, weight[at]), MOST_GRIEVANCE);
            sits = namedAs(lost, kind[lost], sits);
        }

        void hearByDraws(int n, int seed) {
            long x = seed;
            int at = next;
            for (int k = 0; k < n; k++) {
                if (at >= cases) {
                    at = 0;
                }
                x = 16807L * x % 2147483647L;
                long draw = x / 8 % 5;
                settle(at, draw == 0 ? PLAINTIFF_THROWS : draw == 1 ? DEFENDANT_THROWS : NOBODY_THROWS);
                at++;
            }
        }

        void exchange(int one, int other) {
            exchangeIn(plaintiff, one, other);
            exchangeIn(defendant, one, other);
            exchangeIn(weight, one, other);
        }

        private static void exchangeIn(int[] row, int one, int other) {
            int kept = row[one];
            row[one] = row[other];
            row[other] = kept;
        }

        int allGrievance() {
            int all = 0;
            for (int party = 0; party < parties; party++) {
                all += grievance[party];
            }
            return all;
        }

        int justlyWon() {
            int won = 0;
            for (int at = 0; at < next; at++) {
                if (winner[at] == justWinner(at)) {
                    won++;
                }
            }
            return won;
        }

        /** Who sits and the grievance of both parties of a case, as one number. */
        int stateOf(int at) {
            return (sits * GRIEVANCES + grievance[plaintiff[at]]) * GRIEVANCES + grievance[defendant[at]];
        }

        /** The state that follows on a state when the case is heard once. */
        int stateBehind(int at, int state) {
            sits = state / GRIEVANCES / GRIEVANCES;
            grievance[plaintiff[at]] = state / GRIEVANCES % GRIEVANCES;
            grievance[defendant[at]] = state % GRIEVANCES;
            settle(at, NOBODY_THROWS);
            return stateOf(at);
        }
    }

    /** The bytes that came, and their reading as a circuit. */
    private static final class Tape {
        final int[] bytes = new int[MOST_BYTES];
        int size = 0;
        int place = 0;

        boolean append(int letter) {
            if (size >= MOST_BYTES) {
                return false;
            }
            bytes[size] = letter;
            size++;
            return true;
        }

        /** False: there is a fault, at the place where the reading stopped. */
        boolean readInto(Circuit into) {
            into.clear();
            place = 0;
            return takes('c') && readParties(into) && readJudges(into) && readCases(into) && readSits(into)
                && place == size;
        }

        private boolean readParties(Circuit into) {
            for (int party = 0; party < MOST_PARTIES; party++) {
                into.kind[party] = kindHere();
                if (into.kind[party] == PARTY) {
                    return false;
                }
                place++;
                into.grievance[party] = figureBelow(10);
                if (into.grievance[party] < 0) {
                    return false;
                }
                into.wins[party] = 0;
                into.parties = party + 1;
                if (into.parties >= LEAST_PARTIES && takes(';')) {
                    return true;
                }
                if (into.parties >= MOST_PARTIES || !takes(',')) {
                    return false;
                }
            }
            return false;
        }

        private boolean readJudges(Circuit into) {
            for (int judge = 0; judge < MOST_JUDGES; judge++) {
                into.lean[judge] = figureBelow(10);
                if (into.lean[judge] < 0) {
                    return false;
                }
                into.favours[judge] = takes('-') ? NONE : figureBelow(into.parties);
                if (into.favours[judge] == BAD) {
                    return false;
                }
                into.judges = judge + 1;
                if (takes(';')) {
                    return true;
                }
                if (into.judges >= MOST_JUDGES || !takes(',')) {
                    return false;
                }
            }
            return false;
        }

        private boolean readCases(Circuit into) {
            for (int at = 0; at < MOST_CASES; at++) {
                if (!readCase(into, at)) {
                    return false;
                }
                into.cases = at + 1;
                if (takes(';')) {
                    return true;
                }
                if (into.cases >= MOST_CASES || !takes(',')) {
                    return false;
                }
            }
            return false;
        }

        private boolean readCase(Circuit into, int at) {
            into.winner[at] = NONE;
            into.plaintiff[at] = figureBelow(into.parties);
            if (into.plaintiff[at] < 0 || byteHere() == '0' + into.plaintiff[at]) {
                return false;
            }
            into.defendant[at] = figureBelow(into.parties);
            if (into.defendant[at] < 0) {
                return false;
            }
            into.weight[at] = figureBelow(10);
            return into.weight[at] >= 0;
        }

        private boolean readSits(Circuit into) {
            into.sits = figureBelow(into.judges);
            return into.sits >= 0;
        }

        private int byteHere() {
            return place < size && place < MOST_BYTES ? bytes[place] : -1;
        }

        private boolean takes(int letter) {
            if (byteHere() != letter) {
                return false;
            }
            place++;
            return true;
        }

        /** A figure that is less than a limit, behind which the reading goes on; else BAD, and it stays. */
        private int figureBelow(int limit) {
            int figure = byteHere() - '0';
            if (figure < 0 || figure >= limit) {
                return BAD;
            }
            place++;
            return figure;
        }

        /** PARTY, which no letter tells, if there is no letter of a kind. */
        private int kindHere() {
            switch (byteHere()) {
                case 'p': return PLAIN;
                case 'b': return BITTER;
                case 's': return SAINT;
                case 'l': return LAUGHER;
                case 'f': return FEARED;
                default: return PARTY;
            }
        }
    }

    /** An act, with what it takes to undo it. */
    private static final class Act {
        int what = HEARD;
        int one = 0;
        int other = 0;
        int before = 0;
        int beforeOther = 0;
        int sat = 0;

        void takeBack(Circuit in) {
            switch (what) {
                case HEARD:
                    takeBackHearing(in);
                    break;
                case SWAPPED:
                    in.exchange(one, other);
                    break;
                case SOOTHED:
                    in.grievance[one] = before;
                    break;
                case SEATED:
                    in.sits = sat;
                    break;
                default:
                    in.lean[one] = before;
                    break;
            }
        }

        private void takeBackHearing(Circuit in) {
            in.wins[in.winner[one]]--;
            in.winner[one] = NONE;
            in.grievance[in.plaintiff[one]] = before;
            in.grievance[in.defendant[one]] = beforeOther;
            in.sits = sat;
            in.next = one;
        }
    }

    /** The latest acts, in a ring: one too many takes the place of the oldest. */
    private static final class History {
        final Act[] acts = new Act[MOST_ACTS];
        int size = 0;
        int newest = 0;

        History() {
            for (int k = 0; k < MOST_ACTS; k++) {
                acts[k] = new Act();
            }
        }

        Act begin(int what, int one, int other) {
            newest = newest + 1 < MOST_ACTS ? newest + 1 : 0;
            size = Math.min(size + 1, MOST_ACTS);
            Act act = acts[newest];
            act.what = what;
            act.one = one;
            act.other = other;
            return act;
        }

        Act latest() {
            return acts[newest];
        }

        void forgetLatest() {
            newest = newest > 0 ? newest - 1 : MOST_ACTS - 1;
            size--;
        }
    }

    /**
     * What would come. Grievance sways neither findings nor namings, so that who sits is all that one
     * case hands on to the next: a row with an entry for each judge is enough to go from case to case.
     */
    private static final class Foretelling {
        private static final int NEVER = 1 << 20;
        private static final int ONE_THROW = 1 << MOST_CASES;
        private static final int MOST_STATES = 10000;

        final int[] here = new int[MOST_JUDGES];
        final int[] then = new int[MOST_JUDGES];
        final int[] sitsThen = new int[MOST_ORDERED * MOST_JUDGES];
        final int[] just = new int[MOST_ORDERED * MOST_JUDGES];
        final int[] most = new int[(1 << MOST_ORDERED) * MOST_JUDGES];
        final int[] judgeOf = new int[MOST_PARTIES];
        final int[] asked = new int[MOST_PARTIES];
        final int[] partyOf = new int[MOST_JUDGES];

        private void moveOn() {
            System.arraycopy(then, 0, here, 0, MOST_JUDGES);
        }

        /**
         * A set of throws is held with its number of bits above it: the least is the one to choose. Of
         * all sets that lead to the same judge the least stays so, whatever is thrown behind.
         */
        int fewestThrows(Circuit in, int party, int goal) {
            Arrays.fill(here, NEVER);
            here[in.sits] = 0;
            for (int at = in.next; at < goal; at++) {
                Arrays.fill(then, NEVER);
                for (int judge = 0; judge < in.judges; judge++) {
                    spreadThrows(in, party, at, judge);
                }
                moveOn();
            }
            int least = NEVER;
            for (int judge = 0; judge < in.judges; judge++) {
                if (in.winnerBefore(judge, goal) == party) {
                    least = Math.min(least, here[judge]);
                }
            }
            return least >= NEVER ? NONE : least % ONE_THROW;
        }

        private void spreadThrows(Circuit in, int party, int at, int judge) {
            if (here[judge] >= NEVER) {
                return;
            }
            int heard = in.sitsAfter(judge, at, in.winnerBefore(judge, at));
            then[heard] = Math.min(then[heard], here[judge]);
            if (in.isOwn(party, at)) {
                int thrown = in.namedBy(party, judge);
                then[thrown] = Math.min(then[thrown], here[judge] + ONE_THROW + (1 << at));
            }
        }

        /** The wins of a less those of b in the next n cases, each throwing as is best for it; b may be NONE. */
        int contest(Circuit in, int a, int b, int n) {
            Arrays.fill(here, 0);
            for (int at = in.next + n - 1; at >= in.next; at--) {
                for (int judge = 0; judge < in.judges; judge++) {
                    int value = gainOf(in, a, b, at, judge, in.winnerBefore(judge, at));
                    if (in.isOwn(b, at)) {
                        value = Math.min(value, gainOf(in, a, b, at, judge, in.opponentOf(b, at)));
                    }
                    if (in.isOwn(a, at)) {
                        value = Math.max(value, gainOf(in, a, b, at, judge, in.opponentOf(a, at)));
                    }
                    then[judge] = value;
                }
                moveOn();
            }
            return here[in.sits];
        }

        private int gainOf(Circuit in, int a, int b, int at, int judge, int won) {
            int gain = won == a ? 1 : won == b ? -1 : 0;
            return gain + here[in.sitsAfter(judge, at, won)];
        }

        /** For each set of the next n cases already heard, and each judge, the most that can still be just. */
        void weighOrders(Circuit in, int n) {
            for (int k = 0; k < n; k++) {
                for (int judge = 0; judge < in.judges; judge++) {
                    int won = in.winnerBefore(judge, in.next + k);
                    just[k * MOST_JUDGES + judge] = won == in.justWinner(in.next + k) ? 1 : 0;
                    sitsThen[k * MOST_JUDGES + judge] = in.sitsAfter(judge, in.next + k, won);
                }
            }
            Arrays.fill(most, 0);
            for (int heard = (1 << n) - 2; heard >= 0; heard--) {
                for (int judge = 0; judge < in.judges; judge++) {
                    most[heard * MOST_JUDGES + judge] = mostBehind(heard, judge, n);
                }
            }
        }

        private int mostBehind(int heard, int judge, int n) {
            int best = 0;
            for (int k = 0; k < n; k++) {
                if ((heard >> k & 1) == 0) {
                    best = Math.max(best, justBy(heard, judge, k));
                }
            }
            return best;
        }

        private int justBy(int heard, int judge, int k) {
            int step = k * MOST_JUDGES + judge;
            return just[step] + most[(heard | 1 << k) * MOST_JUDGES + sitsThen[step]];
        }

        int mostJust(int sits) {
            return most[sits];
        }

        /** Which of the next n cases stands at a place of the best order, the first by numbers. */
        int placedAt(Circuit in, int n, int place) {
            int heard = 0;
            int judge = in.sits;
            int chosen = 0;
            for (int p = 0; p <= place; p++) {
                chosen = firstOfBest(heard, judge, n);
                heard |= 1 << chosen;
                judge = sitsThen[chosen * MOST_JUDGES + judge];
            }
            return chosen;
        }

        private int firstOfBest(int heard, int judge, int n) {
            int best = most[heard * MOST_JUDGES + judge];
            for (int k = 0; k < n; k++) {
                if ((heard >> k & 1) == 0 && justBy(heard, judge, k) == best) {
                    return k;
                }
            }
            return 0;
        }

        /** How long the ring of states is: one waits, at 1, 2, 4 .. steps, for the other to come by. */
        int period(Circuit scratch, int at, int start) {
            int waiting = start;
            int going = scratch.stateBehind(at, start);
            int steps = 1;
            int patience = 1;
            for (int k = 0; k < MOST_STATES && going != waiting; k++) {
                if (steps == patience) {
                    waiting = going;
                    patience *= 2;
                    steps = 0;
                }
                going = scratch.stateBehind(at, going);
                steps++;
            }
            return steps;
        }

        int leadIn(Circuit scratch, int at, int start, int period) {
            int behind = start;
            int front = start;
            for (int k = 0; k < period; k++) {
                front = scratch.stateBehind(at, front);
            }
            int steps = 0;
            for (int k = 0; k < MOST_STATES && behind != front; k++) {
                behind = scratch.stateBehind(at, behind);
                front = scratch.stateBehind(at, front);
                steps++;
            }
            return steps;
        }

        /** Parties ask and judges keep whom they like best, which is best for those who ask. */
        int benchOf(Circuit in, int party) {
            Arrays.fill(judgeOf, NONE);
            Arrays.fill(partyOf, NONE);
            Arrays.fill(asked, 0);
            for (int k = 0; k < MOST_PARTIES * MOST_JUDGES; k++) {
                int asking = askingParty(in);
                if (asking == NONE) {
                    break;
                }
                ask(in, asking);
            }
            return judgeOf[party];
        }

        private int askingParty(Circuit in) {
            int all = (1 << in.judges) - 1;
            for (int party = 0; party < in.parties; party++) {
                if (judgeOf[party] == NONE && asked[party] != all) {
                    return party;
                }
            }
            return NONE;
        }

        private void ask(Circuit in, int party) {
            int judge = in.likedBest(party, in.kind[party], asked[party]);
            if (judge == NONE) {
                return;
            }
            asked[party] |= 1 << judge;
            int rival = partyOf[judge];
            if (rival != NONE && !isLikedMore(in, party, rival)) {
                return;
            }
            if (rival != NONE) {
                judgeOf[rival] = NONE;
            }
            partyOf[judge] = party;
            judgeOf[party] = judge;
        }

        private static boolean isLikedMore(Circuit in, int party, int rival) {
            int less = in.grievance[rival] - in.grievance[party];
            return less > 0 || less == 0 && party < rival;
        }

        /** In how many of 10 to the n equal lots a party wins the last of the next n cases. */
        int oddsOfLast(Circuit in, int party, int n, int q) {
            Arrays.fill(here, 0);
            here[in.sits] = 1;
            int last = in.next + n - 1;
            for (int at = in.next; at < last; at++) {
                Arrays.fill(then, 0);
                for (int judge = 0; judge < in.judges; judge++) {
                    int found = in.winnerBefore(judge, at);
                    then[in.sitsAfter(judge, at, found)] += here[judge] * (10 - q);
                    then[in.namedBy(found, judge)] += here[judge] * q;
                }
                moveOn();
            }
            int odds = 0;
            for (int judge = 0; judge < in.judges; judge++) {
                if (in.isOwn(party, last)) {
                    odds += here[judge] * (in.winnerBefore(judge, last) == party ? 10 - q : q);
                }
            }
            return odds;
        }
    }

    /** A row of items; whatever its lane, they are held as longs that were cut to it. */
    private static final class Sheet {
        final long[] items = new long[MOST_ITEMS];
        boolean held = false;
        int lane = 0;
        int size = 0;

        void lay(int ofLane, int n) {
            Arrays.fill(items, 0L);
            held = true;
            lane = ofLane;
            size = n;
        }

        boolean reaches(int i, int n) {
            return i >= 0 && n >= 0 && i <= size - n;
        }

        /** NULL, CAST or INDEX; 0 if n items from i on can be had of a row of that lane. */
        int refusal(int asLane, int i, int n) {
            if (!held) {
                return NULL;
            }
            if (lane != asLane) {
                return CAST;
            }
            return reaches(i, n) ? 0 : INDEX;
        }

        long put(int i, long v) {
            items[i] = cut(v);
            return items[i];
        }

        private long cut(long v) {
            switch (lane) {
                case 0: return (byte) v;
                case 1: return (short) v;
                case 2: return (int) v;
                default: return v;
            }
        }
    }

    /** Pairs that were seen, and what they leave open. */
    private static final class Clues {
        final int[] first = new int[MOST_PAIRS];
        final int[] second = new int[MOST_PAIRS];
        final int[] alike = new int[MOST_JUDGES];
        int pairs = 0;

        /** False: an item is not below its limit. */
        boolean take(Sheet from, int i, int n, int firstLimit, int secondLimit) {
            pairs = n;
            for (int k = 0; k < n; k++) {
                long one = from.items[i + 2 * k];
                long other = from.items[i + 2 * k + 1];
                if (one < 0 || one >= firstLimit || other < 0 || other >= secondLimit) {
                    return false;
                }
                first[k] = (int) one;
                second[k] = (int) other;
            }
            return true;
        }

        int leansOf(Circuit in, int judge) {
            int set = 0;
            for (int lean = 0; lean <= 9; lean++) {
                boolean may = true;
                for (int k = 0; k < pairs; k++) {
                    int found = in.pleaBefore(judge, first[k]) >= lean ? 0 : 1;
                    may = may && found == second[k];
                }
                if (may) {
                    set |= 1 << lean;
                }
            }
            return set;
        }

        int caseToTry(Circuit in, int judge, int set) {
            int best = NONE;
            int bestPart = 0;
            for (int at = 0; at < in.cases && set != 0; at++) {
                int part = greaterPart(in.pleaBefore(judge, at), set);
                if (best == NONE || part < bestPart) {
                    best = at;
                    bestPart = part;
                }
            }
            return best;
        }

        private static int greaterPart(int plea, int set) {
            int forPlaintiff = 0;
            for (int lean = 0; lean <= 9 && lean <= plea; lean++) {
                forPlaintiff += set >> lean & 1;
            }
            return Math.max(forPlaintiff, Integer.bitCount(set) - forPlaintiff);
        }

        int kindsOf(Circuit in, int party) {
            int set = 0;
            for (int kind = PLAIN; kind <= FEARED; kind++) {
                boolean may = true;
                for (int k = 0; k < pairs; k++) {
                    may = may && in.namedAs(party, kind, first[k]) == second[k];
                }
                if (may) {
                    set |= 1 << kind;
                }
            }
            return set;
        }

        int judgeToTry(Circuit in, int party, int set) {
            int best = NONE;
            int bestPart = 0;
            for (int judge = 0; judge < in.judges && set != 0; judge++) {
                int part = greatestPart(in, party, judge, set);
                if (best == NONE || part < bestPart) {
                    best = judge;
                    bestPart = part;
                }
            }
            return best;
        }

        private int greatestPart(Circuit in, int party, int judge, int set) {
            Arrays.fill(alike, 0);
            int greatest = 0;
            for (int kind = PLAIN; kind <= FEARED; kind++) {
                if ((set >> kind & 1) == 1) {
                    int named = in.namedAs(party, kind, judge);
                    alike[named]++;
                    greatest = Math.max(greatest, alike[named]);
                }
            }
            return greatest;
        }
    }
}
