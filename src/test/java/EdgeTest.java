import java.util.ArrayList;
import java.util.List;

/** Promises 1 to 34 and paragraph 3 of the terms, sentence by sentence: each bound, and a step on either side of it. */
public final class EdgeTest extends Checks {
    /** Party 0 wins all twelve, whoever sits. */
    private static final String TWELVE = "cs0,s0;0-;" + row("019", 12) + ";0";

    private static LoserPicks twelve(int heard) {
        LoserPicks x = of(TWELVE);
        hear(x, heard);
        return x;
    }

    // ---- 1 what is told

    private static void p1to3() {
        sentence("1: No CIRCUIT");
        LoserPicks x = new LoserPicks();
        along(0, x::count, 0, 0, 0, 0, NONE, 0, 0, 0, 0);
        sentence("2: A byte (0 .. 255) comes behind THE TAPE: how many it has. BAD");
        along(-2, x::feed, BAD, BAD, 1, 2);
        along(254, x::feed, 3, 4, BAD, BAD);
        badFarOff(x::feed);
        due(x.count(8), 4);
        sentence("2: FULL");
        for (int n = 5; n <= 130; n++) {
            due(x.feed(0), n);
        }
        due(x.feed(0), FULL);
        due(x.feed(255), FULL);
        sentence("3: THE TAPE, empty then, is a CIRCUIT: how many CASES");
        due(x.circuit(), -100);
        for (int n = 1; n <= 12; n++) {
            LoserPicks y = new LoserPicks();
            due(read(y, "cs0,s0;0-;" + row("019", n) + ";0"), n);
            due(y.count(8), 0);
            due(y.circuit(), -100);
            due(y.count(2), n);
        }
        sentence("3: -100 less the place of a FAULT; THE TAPE is empty then, too");
        x = of(ALL);
        for (int n = 0; n < 7; n++) {
            due(read(x, ALL.substring(0, n)), -100 - n);
            due(x.count(8), 0);
        }
        due(x.count(2), 7);
    }

    private static void p4and5() {
        sentence("4: Of a PARTY, by numbers from 0 on");
        LoserPicks x = of(ALL);
        for (int w = 0; w < 4; w++) {
            int what = w;
            badFarOff(p -> x.party(p, what));
            due(x.party(-1, what), BAD);
            due(x.party(5, what), BAD);
            due(x.party(0, what) >= 0 ? 1 : 0, 1);
            due(x.party(4, what) >= 0 ? 1 : 0, 1);
        }
        LoserPicks six = of(MOST);
        along(-1, p -> six.party(p, 1), BAD, 9, 8, 7, 6, 5, 4, BAD);
        LoserPicks two = of("cp1,p2;0-;015;0");
        along(-1, p -> two.party(p, 1), BAD, 1, 2, BAD);
        sentence("4: 0 the KIND, 1 GRIEVANCE, 2 WINS, 3 whom it would NAME; no other what");
        along(-2, what -> x.party(3, what), BAD, BAD, 4, 1, 0, 2, BAD, BAD);
        badFarOff(what -> x.party(3, what));
        sentence("4: 2 WINS, from none to all");
        LoserPicks y = of(TWELVE);
        for (int n = 0; n <= 12; n++) {
            due(y.party(0, 2), n);
            due(y.party(1, 2), 0);
            y.hear(0);
        }
        due(y.party(0, 2), 12);
        sentence("4: 3 whom it would NAME, losing now");
        int[][] named = {{2, 3, 0, 1, 3}, {2, 3, 1, 2, 3}, {0, 3, 2, 3, 3}, {2, 1, 3, 0, 1}};
        for (int j = 0; j < 4; j++) {
            x.seat(j);
            for (int p = 0; p < 5; p++) {
                due(x.party(p, 3), named[j][p]);
            }
        }
        sentence("4 to 9: BAD: there is no such thing without a CIRCUIT");
        LoserPicks none = new LoserPicks();
        for (int what = 0; what < 4; what++) {
            due(none.party(0, what), BAD);
            due(none.as(0, what), BAD);
            due(none.judge(0, what), BAD);
            due(none.trial(0, what), BAD);
        }
        due(none.finds(0, 0), BAD);
        due(none.names(0, 0), BAD);
        sentence("5: A PARTY taken as a KIND (0 .. 5): its number. BAD; CAST: it is none such");
        along(-1, kind -> x.as(0, kind), BAD, 0, 0, CAST, CAST, CAST, CAST, BAD);
        along(-1, kind -> x.as(1, kind), BAD, 1, 1, 1, CAST, CAST, CAST, BAD);
        along(-1, kind -> x.as(2, kind), BAD, 2, 2, CAST, 2, CAST, CAST, BAD);
        along(-1, kind -> x.as(3, kind), BAD, 3, CAST, CAST, CAST, 3, CAST, BAD);
        along(-1, kind -> x.as(4, kind), BAD, 4, 4, 4, CAST, CAST, 4, BAD);
        along(-1, p -> x.as(p, 0), BAD, 0, 1, 2, 3, 4, BAD);
        along(-1, p -> x.as(p, 5), BAD, CAST, CAST, CAST, CAST, 4, BAD);
        badFarOff(p -> x.as(p, 0));
        badFarOff(kind -> x.as(0, kind));
    }

    private static void p6and7() {
        sentence("6: Of a JUDGE: 0 LEAN, 1 whom he FAVOURS (NONE), 2 whether he sits (1, 0). BAD");
        LoserPicks x = of(MOST);
        along(-1, j -> x.judge(j, 0), BAD, 9, 8, 7, 6, 5, 4, BAD);
        along(-1, j -> x.judge(j, 1), BAD, 5, 4, 3, 2, 1, 0, BAD);
        along(-1, j -> x.judge(j, 2), BAD, 0, 0, 0, 0, 0, 1, BAD);
        x.seat(0);
        along(-1, j -> x.judge(j, 2), BAD, 1, 0, 0, 0, 0, 0, BAD);
        along(-1, what -> x.judge(0, what), BAD, 9, 5, 1, BAD);
        badFarOff(what -> x.judge(0, what));
        badFarOff(j -> x.judge(j, 0));
        LoserPicks one = of("cp1,p2;0-;015;0");
        along(-1, j -> one.judge(j, 1), BAD, NONE, BAD);
        along(-1, j -> one.judge(j, 2), BAD, 1, BAD);
        sentence("7: Of a CASE: 0 the PLAINTIFF, 1 the DEFENDANT, 2 WEIGHT. BAD");
        along(-1, at -> x.trial(at, 0), BAD, 0, 1, 2, 3, 4, 5, 0, 1, 2, 3, 4, 5, BAD);
        along(-1, at -> x.trial(at, 1), BAD, 1, 2, 3, 4, 5, 0, 1, 2, 3, 4, 5, 0, BAD);
        along(-1, at -> x.trial(at, 2), BAD, 9, 1, 2, 3, 4, 5, 6, 7, 8, 9, 0, 1, BAD);
        along(-1, what -> x.trial(1, what), BAD, 1, 2, 1, NONE, BAD);
        badFarOff(what -> x.trial(1, what));
        badFarOff(at -> x.trial(at, 0));
        along(-1, at -> one.trial(at, 2), BAD, 5, BAD);
        sentence("7: 3 who won it (NONE: it was not HEARD)");
        LoserPicks y = of("cs0,s0;0-;015,105,015;0");
        along(-1, at -> y.trial(at, 3), BAD, NONE, NONE, NONE, BAD);
        y.hear(0);
        along(-1, at -> y.trial(at, 3), BAD, 0, NONE, NONE, BAD);
        y.hear(0);
        along(-1, at -> y.trial(at, 3), BAD, 0, 1, NONE, BAD);
        y.hear(1);
        along(-1, at -> y.trial(at, 3), BAD, 0, 1, 1, BAD);
        y.undo();
        along(-1, at -> y.trial(at, 3), BAD, 0, 1, NONE, BAD);
    }

    private static void p8and9() {
        sentence("8: Who would win a CASE before a JUDGE. BAD");
        LoserPicks x = of(ALL);
        along(-1, j -> x.finds(j, 0), BAD, 0, 1, 0, 1, BAD);
        along(-1, j -> x.finds(j, 6), BAD, 2, 2, 2, 1, BAD);
        along(-1, at -> x.finds(0, at), BAD, 0, 2, 2, 4, 0, 4, 2, BAD);
        badFarOff(j -> x.finds(j, 0));
        badFarOff(at -> x.finds(0, at));
        hear(x, 7);
        // a case that was heard, and thrown, is found as it would be
        along(-1, at -> x.finds(0, at), BAD, 0, 2, 2, 4, 0, 4, 2, BAD);
        sentence("9: Whom a PARTY would NAME, having lost before a JUDGE. BAD");
        along(-1, p -> x.names(p, 0), BAD, 2, 3, 0, 1, 3, BAD);
        along(-1, p -> x.names(p, 3), BAD, 2, 1, 3, 0, 1, BAD);
        along(-1, j -> x.names(0, j), BAD, 2, 2, 0, 2, BAD);
        along(-1, j -> x.names(4, j), BAD, 3, 3, 3, 1, BAD);
        badFarOff(p -> x.names(p, 0));
        badFarOff(j -> x.names(0, j));
    }

    // ---- 2 acts

    private static void p10and11() {
        sentence("10: nobody THROWING it (0), the PLAINTIFF (1), the DEFENDANT (2): who wins. BAD");
        LoserPicks x = of(TWELVE);
        along(-2, x::hear, BAD, BAD, 0, 1, 0, BAD, BAD);
        badFarOff(x::hear);
        due(x.count(3), 3);
        sentence("10: NOT: there is none");
        due(new LoserPicks().hear(0), NOT);
        LoserPicks y = twelve(10);
        along(0, y::hear, 0, 1, NOT);
        along(0, y::hear, NOT, NOT, NOT);
        due(y.count(3), 12);
        due(y.undo(), 11);
        due(y.hear(0), 0);
        due(y.hear(0), NOT);
        LoserPicks one = of("cs0,s0;0-;019;0");
        along(0, one::hear, 0, NOT, NOT);
        sentence("11: Two CASES change about: the next one's number. BAD");
        LoserPicks z = of(ALL);
        along(-1, at -> z.swap(at, 3), BAD, 0, 0, 0, NOT, 0, 0, 0, BAD);
        along(-1, at -> z.swap(3, at), BAD, 0, 0, 0, NOT, 0, 0, 0, BAD);
        badFarOff(at -> z.swap(at, 3));
        badFarOff(at -> z.swap(3, at));
        due(new LoserPicks().swap(0, 1), BAD);
        sentence("11: NOT: they are the same, one was HEARD");
        LoserPicks w = of(ALL);
        hear(w, 3);
        along(0, at -> w.swap(at, 5), NOT, NOT, NOT, 3, 3, NOT, 3, BAD);
        along(0, at -> w.swap(5, at), NOT, NOT, NOT, 3, 3, NOT, 3, BAD);
        due(w.swap(1, 2), NOT);
        due(w.swap(3, 3), NOT);
        due(w.swap(2, 2), NOT);
        due(w.count(7), 9);
        hear(w, 4);
        due(w.swap(5, 6), NOT);
    }

    private static void p12to14() {
        sentence("12: SOOTHED: GRIEVANCE then. BAD; NOT: it is 0");
        LoserPicks x = of("cp0,p1,p2,p3,p4,b9;5-;509;0");
        along(-1, x::soothe, BAD, NOT, 0, 0, 0, 1, 6, BAD);
        along(-1, x::soothe, BAD, NOT, NOT, NOT, NOT, 0, 3, BAD);
        badFarOff(x::soothe);
        due(new LoserPicks().soothe(0), BAD);
        x.hear(1);
        x.undo();
        LoserPicks y = of("cb9,s0;5-;019;0");
        y.hear(1);
        along(0, k -> y.soothe(0), 17, 14, 11, 8, 5, 2, 0, NOT);
        sentence("13: Another JUDGE sits: who did. BAD; NOT: he does");
        LoserPicks z = of(MOST);
        along(-1, z::seat, BAD, 5, 0, 1, 2, 3, 4, BAD);
        due(z.seat(5), NOT);
        due(z.seat(4), 5);
        due(z.seat(4), NOT);
        badFarOff(z::seat);
        due(new LoserPicks().seat(0), BAD);
        LoserPicks one = of("cs0,s0;0-;019;0");
        along(-1, one::seat, BAD, NOT, BAD);
        sentence("14: Another LEAN (0 .. 9): what it was. BAD; NOT: it is that");
        along(-1, lean -> z.lean(5, lean), BAD, 4, 0, 1, 2, 3, 4, 5, 6, 7, 8, BAD);
        along(8, lean -> z.lean(0, lean), 9, 8, BAD, BAD);
        along(-1, j -> z.lean(j, 9), BAD, NOT, 8, 7, 6, 5, NOT, BAD);
        along(-1, j -> z.lean(j, 0), BAD, 9, 9, 9, 9, 9, 9, BAD);
        badFarOff(j -> z.lean(j, 3));
        badFarOff(lean -> z.lean(0, lean));
        due(z.lean(0, 0), NOT);
        due(new LoserPicks().lean(0, 0), BAD);
    }

    private static void p15to17() {
        sentence("15: The latest ACT is undone: how many more can be. NONE: none can");
        LoserPicks x = new LoserPicks();
        due(x.undo(), NONE);
        read(x, ALL);
        due(x.undo(), NONE);
        x.seat(2);
        due(x.undo(), 0);
        due(x.undo(), NONE);
        due(x.count(4), 1);
        x.seat(2);
        x.seat(3);
        due(x.undo(), 1);
        due(x.count(4), 2);
        due(x.undo(), 0);
        due(x.undo(), NONE);
        sentence("16: An IMAGE (0, 1) is kept of the CIRCUIT: the next CASE. BAD");
        LoserPicks y = of("cs0,s0;0-;019,018;0");
        for (int n = 0; n <= 2; n++) {
            along(-2, y::image, BAD, BAD, n, n, BAD, BAD);
            y.hear(0);
        }
        badFarOff(y::image);
        sentence("16: NOT: no CIRCUIT");
        LoserPicks none = new LoserPicks();
        along(-1, none::image, BAD, NOT, NOT, BAD);
        due(read(none, "cp0"), -103);
        along(-1, none::image, BAD, NOT, NOT, BAD);
        sentence("17: The CIRCUIT is as the IMAGE was: the next CASE. BAD; NOT: none was kept");
        along(-1, none::restore, BAD, NOT, NOT, BAD);
        badFarOff(none::restore);
        LoserPicks z = of(ALL);
        along(-1, z::restore, BAD, NOT, NOT, BAD);
        due(z.image(1), 0);
        along(-1, z::restore, BAD, NOT, 0, BAD);
        z.hear(0);
        due(z.image(0), 1);
        z.hear(0);
        along(-1, z::restore, BAD, 1, 0, BAD);
        // the later image stands in place of the earlier one
        hear(z, 3);
        due(z.image(0), 3);
        due(z.restore(1), 0);
        due(z.restore(0), 3);
        sentence("17: nothing can be undone then");
        z.hear(0);
        due(z.count(7), 1);
        due(z.restore(0), 3);
        due(z.count(7), 0);
        due(z.undo(), NONE);
        due(z.count(3), 3);
        sentence("17: what is done behind an IMAGE does not change it");
        for (int again = 0; again < 2; again++) {
            due(z.restore(1), 0);
            due(z.party(4, 1), 9);
            due(z.judge(2, 0), 0);
            due(z.count(4), 1);
            due(z.trial(0, 2), 4);
            z.swap(0, 3);
            z.soothe(4);
            z.lean(2, 6);
            z.seat(3);
            hear(z, 7);
        }
        sentence("17: as the IMAGE was, in all that is told of it");
        LoserPicks first = of(ALL);
        hear(first, 3);
        first.image(0);
        String then = shape(first);
        hear(first, 2);
        due(shape(first).equals(then) ? 1 : 0, 0);
        first.restore(0);
        due(shape(first).equals(then) ? 1 : 0, 1);
        hear(first, 4);
        first.image(1);
        first.restore(0);
        due(shape(first).equals(then) ? 1 : 0, 1);
        first.restore(1);
        due(first.count(6), 5);
        due(first.trial(6, 3), 2);
        due(first.party(0, 2), 2);
        sentence("17: the IMAGE of another CIRCUIT, of more or fewer of everything");
        read(z, MOST);
        due(z.image(0), 0);
        due(z.restore(1), 0);
        along(0, z::count, 5, 4, 7, 0, 1, 18, 0, 0, 0);
        due(z.party(5, 1), BAD);
        due(z.restore(0), 0);
        along(0, z::count, 6, 6, 12, 0, 5, 39, 0, 0, 0);
        due(z.party(5, 1), 4);
    }

    /** All that is told of ALL, but for what can be undone. */
    private static String shape(LoserPicks x) {
        StringBuilder all = new StringBuilder();
        for (int what = 0; what < 7; what++) {
            all.append(x.count(what)).append(' ');
        }
        for (int what = 0; what < 4; what++) {
            for (int k = 0; k < 7; k++) {
                all.append(x.party(k, what)).append(' ').append(x.judge(k, what)).append(' ');
                all.append(x.trial(k, what)).append(' ');
            }
        }
        return all.toString();
    }

    // ---- 3 foretold

    private static void p18() {
        sentence("18: Behind n (0 .. 12) more CASES who won the last one (n 0: NONE), who sits (1). BAD");
        LoserPicks x = of("cl0,l0;0-,9-,0-;" + row("015", 12) + ";0");
        int[] won = {NONE, 0, 1, 0, 0, 1, 0, 0, 1, 0, 0, 1, 0};
        for (int n = 0; n <= 12; n++) {
            due(x.ahead(n, 0), won[n]);
            due(x.ahead(n, 1), n % 3);
            along(-2, what -> x.ahead(3, what), BAD, BAD, 0, 0, BAD, BAD);
        }
        for (int what = 0; what <= 1; what++) {
            int w = what;
            due(x.ahead(-1, w), BAD);
            due(x.ahead(13, w), BAD);
            badFarOff(n -> x.ahead(n, w));
        }
        badFarOff(what -> x.ahead(0, what));
        sentence("18: NONE: there are fewer");
        for (int heard = 1; heard <= 12; heard++) {
            due(x.hear(0), won[heard]);
            int left = 12 - heard;
            due(x.ahead(left, 1), 0);
            due(x.ahead(left, 0), left == 0 ? NONE : 0);
            due(x.ahead(left + 1, 0), NONE);
            due(x.ahead(left + 1, 1), NONE);
            due(x.ahead(12, 1), NONE);
            due(x.ahead(13, 1), BAD);
        }
        sentence("18: NOT: no CIRCUIT");
        along(-1, n -> new LoserPicks().ahead(n, 1), BAD, NOT, NOT, NOT);
        along(11, n -> new LoserPicks().ahead(n, 0), NOT, NOT, BAD);
    }

    private static void p19() {
        sentence("19: THROWS: a CASE of its own; NOT: it is not its own. BAD");
        LoserPicks x = of("cs0,s0,s0;0-;019,129,209,019;0");
        along(-1, p -> x.throwing(p, 0), BAD, 0, NONE, NOT, BAD);
        along(-1, p -> x.throwing(p, 1), BAD, NOT, 0, NONE, BAD);
        along(-1, at -> x.throwing(0, at), BAD, 0, NOT, NONE, 0, BAD);
        badFarOff(p -> x.throwing(p, 0));
        badFarOff(at -> x.throwing(0, at));
        due(new LoserPicks().throwing(0, 0), BAD);
        sentence("19: NOT: it was HEARD");
        x.hear(0);
        due(x.throwing(0, 0), NOT);
        due(x.throwing(1, 0), NOT);
        due(x.throwing(1, 1), 0);
        hear(x, 3);
        due(x.throwing(1, 1), NOT);
        due(x.throwing(0, 3), NOT);
        x.undo();
        due(x.throwing(0, 3), 0);
        sentence("19: the set of CASES of its own ahead of that, the fewest");
        // judge k finds for 0 from weight 9 - k on: to win the last, the laugher must lose as often as told
        for (int weight = 9; weight >= 4; weight--) {
            LoserPicks y = of("cl0,s0;9-,8-,7-,6-,5-,4-;" + row("019", 10) + ",01" + weight + ";0");
            due(y.throwing(0, 10), (1 << 9 - weight) - 1);
            y.hear(0);
            due(y.throwing(0, 10), (1 << 9 - weight) - 1 << 1);
            hear(y, 9 - (9 - weight));
            due(y.throwing(0, 10), (1 << 9 - weight) - 1 << 10 - (9 - weight));
            y.hear(0);
            due(y.throwing(0, 10), weight == 9 ? NOT : NONE);
        }
        sentence("19: a CASE of others ahead is not thrown, nor the CASE itself, nor one behind it");
        due(of("cl0,s0,s0;9-,0-;129,029,015;0").throwing(0, 2), 2);
        due(of("cs0,s0,l0;9-,0-;125,015;0").throwing(0, 1), NONE);
        due(of("cl0,s0;9-,0-;018,019;0").throwing(0, 0), NONE);
        sentence("19: of as few the least as a number");
        // either of the two brings the mild judge who stays, so that it is the first
        due(of("cp0,s0;9-,0-;019,019,015;0").throwing(0, 2), 1);
        due(of("cp0,s0,s0;9-,0-;129,019,019,015;0").throwing(0, 3), 2);
        // two of three by a number: 0 and 1, not 0 and 2, not 1 and 2
        due(of("cl0,s0;9-,9-,0-;019,019,019,015;0").throwing(0, 3), 3);
        sentence("19: a loss that would come anyhow may be thrown for nothing, and then is not");
        due(of("cl0,s0;9-,0-;015,015;0").throwing(0, 1), 0);
        sentence("19: the greatest set is of eleven");
        LoserPicks most = of("cl0,s0;9-,9-,9-,9-,9-,0-;" + row("019", 11) + ",018;0");
        due(most.throwing(0, 11), 31);
        LoserPicks twelfth = of("cl0,s0;9-,0-;" + row("109", 10) + ",019,018;0");
        due(twelfth.throwing(0, 11), 1 << 10);
    }

    private static void p20and21() {
        sentence("20: WORTH: from none to all. BAD");
        for (int heard = 0; heard <= 12; heard++) {
            LoserPicks x = twelve(heard);
            along(-1, x::worth, BAD, 12 - heard, 0, BAD);
        }
        LoserPicks x = of(ALL);
        along(-1, x::worth, BAD, 2, 2, 2, 0, 1, BAD);
        badFarOff(x::worth);
        due(new LoserPicks().worth(0), BAD);
        sentence("20: THROWING of its own CASES what it likes; WINS that it has are not counted");
        LoserPicks y = of("cl0,s0;9-,0-;019,015,015,015;0");
        due(y.worth(0), 3);
        y.hear(0);
        due(y.worth(0), 2);
        y.hear(0);
        due(y.worth(0), 2);
        sentence("21: DUEL of n (0 to 8) CASES: 100 more than that. BAD");
        LoserPicks z = of(TWELVE);
        along(-2, n -> z.duel(0, 1, n), BAD, BAD, 100, 101, 102, 103, 104, 105, 106, 107, 108, BAD, BAD);
        along(-2, n -> z.duel(1, 0, n), BAD, BAD, 100, 99, 98, 97, 96, 95, 94, 93, 92, BAD, BAD);
        badFarOff(n -> z.duel(0, 1, n));
        sentence("21: two unlike PARTIES");
        LoserPicks all = of(ALL);
        for (int a = -1; a <= 5; a++) {
            for (int b = -1; b <= 5; b++) {
                due(all.duel(a, b, 0), a < 0 || b < 0 || a > 4 || b > 4 || a == b ? BAD : 100);
            }
        }
        badFarOff(a -> all.duel(a, 0, 1));
        badFarOff(b -> all.duel(0, b, 1));
        due(new LoserPicks().duel(0, 1, 0), BAD);
        sentence("21: CASES as many as there are, if there are fewer");
        for (int left = 0; left <= 9; left++) {
            LoserPicks w = twelve(12 - left);
            for (int n = 0; n <= 8; n++) {
                due(w.duel(0, 1, n), 100 + Math.min(n, left));
            }
            due(w.duel(0, 1, 9), BAD);
        }
        sentence("21: a may THROW, if it is its own, then, if a does not, b may, if it is its own");
        // the first case is of neither: none of them can bring the other judge
        due(of("cs0,s0,l0,l0;0-,9-;235,015;0").duel(0, 1, 2), 99);
        // of a alone: it loses that to win the other
        due(of("cl0,s0,s0;9-,0-;029,015,015;0").duel(0, 1, 3), 102);
        // of b alone: it loses that, or a would win both behind it
        due(of("cs0,l0,s0;0-,9-;125,015,015;0").duel(0, 1, 3), 98);
        // of both: b gives up the first one to win two, and so does a
        due(of("cs0,l0;0-,9-;105,015,015;0").duel(0, 1, 3), 99);
        due(of("cl0,s0;9-,0-;019,015,015;0").duel(0, 1, 3), 101);
    }

    private static void p22() {
        sentence("22: ORDER of n (0 .. 6): how many JUSTLY (k -1). BAD");
        LoserPicks x = of(TWELVE);
        along(-2, n -> x.order(n, -1), BAD, BAD, 0, 1, 2, 3, 4, 5, 6, BAD, BAD);
        badFarOff(n -> x.order(n, -1));
        sentence("22: the k-th CASE (0 on; NONE: k is n or more). BAD: k below -1, too");
        along(-3, k -> x.order(6, k), BAD, BAD, 6, 0, 1, 2, 3, 4, 5, NONE, NONE);
        along(-3, k -> x.order(1, k), BAD, BAD, 1, 0, NONE, NONE);
        along(-3, k -> x.order(0, k), BAD, BAD, 0, NONE, NONE);
        due(x.order(6, MAX), NONE);
        due(x.order(6, MIN), BAD);
        sentence("22: of the next n; none: there are fewer");
        for (int left = 0; left <= 7; left++) {
            LoserPicks y = twelve(12 - left);
            for (int n = 0; n <= 6; n++) {
                due(y.order(n, -1), n <= left ? n : NONE);
                due(y.order(n, 0), n <= left && n > 0 ? 12 - left : NONE);
                due(y.order(n, n - 1), n <= left ? (n == 0 ? 0 : 12 - left + n - 1) : NONE);
                due(y.order(n, n), NONE);
            }
            due(y.order(7, -1), BAD);
        }
        sentence("22: NOT: no CIRCUIT");
        along(-1, n -> new LoserPicks().order(n, -1), BAD, NOT, NOT, NOT, NOT, NOT, NOT, NOT, BAD);
        along(-2, k -> new LoserPicks().order(1, k), BAD, NOT, NOT, NOT);
        sentence("3: won JUSTLY by the PLAINTIFF, if WEIGHT is 5 or more, by the DEFENDANT, if it is less");
        for (int weight = 0; weight <= 9; weight++) {
            // before a judge of lean 0 the plaintiff wins, before one of lean 9 the defendant, but for weight 9
            due(of("cs0,s0;0-;01" + weight + ";0").order(1, -1), weight >= 5 ? 1 : 0);
            due(of("cs0,s0;9-;01" + weight + ";0").order(1, -1), weight < 5 || weight == 9 ? 1 : 0);
        }
        // a case that is won justly counts once, and none in place of another
        due(of("cs0,s0;0-;015,010;0").order(2, -1), 1);
        due(of("cs0,s0;0-;010,015,010;0").order(3, -1), 1);
        sentence("22: of several the first by their numbers, one by one");
        // only the one who loses case 2 brings the other judge, and the rest is won justly behind it alone
        LoserPicks z = of("cl0,l0,s0,s0;9-,0-;236,237,014,235;0");
        due(z.order(4, -1), 4);
        along(0, k -> z.order(4, k), 2, 0, 1, 3, NONE);
        due(z.order(2, -1), 0);
        along(0, k -> z.order(2, k), 0, 1, NONE);
        due(z.order(3, -1), 3);
        along(0, k -> z.order(3, k), 2, 0, 1, NONE);
    }

    /** Whether a round shows in twelve hearings of the same case: what came first, and how long it is; null if not. */
    private static int[] roundByHearing(LoserPicks x) {
        List<String> seen = new ArrayList<>();
        for (int k = 0; k <= 12; k++) {
            String now = x.count(4) + " " + x.party(0, 1) + " " + x.party(1, 1);
            if (seen.contains(now)) {
                return new int[] {seen.indexOf(now), seen.size() - seen.indexOf(now)};
            }
            seen.add(now);
            x.hear(0);
        }
        return null;
    }

    private static void p23() {
        sentence("23: ROUND: how many hearings come ahead of the first that is had again (0), how many lie between (1)");
        int shown = 0;
        String[] parties = {"s0,s0", "s9,s0", "s0,s9", "l5,l5", "l0,l0", "l9,s3", "p9,b9", "f9,f9", "b0,l2", "p1,s1"};
        String[] judges = {"5-", "4-", "6-", "0-,9-", "9-,0-", "51,50", "9-,0-,9-", "0-,9-,0-,9-,0-,9-"};
        for (String p : parties) {
            for (String j : judges) {
                for (String weight : new String[] {"0", "5", "9"}) {
                    String text = "c" + p + ";" + j + ";" + row("01" + weight, 12) + ";0";
                    int[] round = roundByHearing(of(text));
                    if (round != null) {
                        shown++;
                        due(of(text).round(0, 0), round[0]);
                        due(of(text).round(11, 1), round[1]);
                    }
                }
            }
        }
        due(shown > 100 ? 1 : 0, 1);
        sentence("23: a ROUND at once, and one with the most ahead of it");
        LoserPicks at0 = of("cs0,s0;5-;015;0");
        along(-2, what -> at0.round(0, what), BAD, BAD, 0, 1, BAD, BAD);
        LoserPicks at1 = of("cs1,s0;5-;015;0");
        along(-2, what -> at1.round(0, what), BAD, BAD, 1, 1, BAD, BAD);
        LoserPicks six = of("cl5,l5;0-,9-,0-,9-,0-,9-;015;0");
        along(-1, what -> six.round(0, what), BAD, 0, 6, BAD);
        // the winner comes from 0 to 20 by two up and one down each three hearings
        LoserPicks far = of("cl0,l0;0-,9-,9-;015;0");
        along(-1, what -> far.round(0, what), BAD, 57, 3, BAD);
        sentence("23: of a CASE (HEARD or not). BAD");
        LoserPicks x = of("cs3,s0;5-;015,105;0");
        along(-1, at -> x.round(at, 0), BAD, 3, 0, BAD);
        x.hear(0);
        along(-1, at -> x.round(at, 0), BAD, 2, 0, BAD);
        x.hear(0);
        along(-1, at -> x.round(at, 0), BAD, 2, 0, BAD);
        along(-1, at -> x.round(at, 1), BAD, 1, 1, BAD);
        badFarOff(at -> x.round(at, 0));
        badFarOff(what -> x.round(0, what));
        due(new LoserPicks().round(0, 0), BAD);
    }

    private static void benches(String text, int... judges) {
        LoserPicks x = of(text);
        due(x.bench(-1), BAD);
        due(x.bench(judges.length), BAD);
        for (int p = 0; p < judges.length; p++) {
            due(x.bench(p), judges[p]);
        }
    }

    private static void p24() {
        sentence("24: BENCH: the JUDGE of a PARTY. BAD");
        benches("cp0,p0;5-;015;0", 0, NONE);
        benches("cp0,p0;5-,5-;015;0", 0, 1);
        benches("cp0,p0;5-,5-,4-;015;0", 2, 0);
        benches("c" + row("p0", 6) + ";" + row("5-", 6) + ";015;0", 0, 1, 2, 3, 4, 5);
        badFarOff(of(ALL)::bench);
        due(new LoserPicks().bench(0), BAD);
        sentence("24: NONE: there are fewer JUDGES");
        benches("c" + row("p0", 6) + ";" + row("5-", 5) + ";015;0", 0, 1, 2, 3, 4, NONE);
        benches("c" + row("p0", 6) + ";5-;015;0", 0, NONE, NONE, NONE, NONE, NONE);
        sentence("24: each JUDGE likes PARTIES by GRIEVANCE, the least first, of like ones by numbers");
        benches("cp4,p3,p4;5-;015;0", NONE, 0, NONE);
        benches("cp4,p4,p4;5-;015;0", 0, NONE, NONE);
        benches("cp4,p4,p3;5-;015;0", NONE, NONE, 0);
        benches("cp4,p4,p5,p5,p5,p3;5-,6-;015;0", 1, NONE, NONE, NONE, NONE, 0);
        benches("cp4,p5,p4;5-,6-;015;0", 0, NONE, 1);
        benches("cp4,p4,p3;5-,6-;015;0", 1, NONE, 0);
        benches("cp9,p0;5-,6-;015;0", 1, 0);
        sentence("24: each PARTY likes JUDGES as it would NAME them, one behind another");
        benches("cp0,p1,p2;6-,4-,5-;015;0", 1, 2, 0);
        benches("cb0,b1,b2;6-,4-,5-;015;0", 0, 2, 1);
        benches("cs0,s1,s2;6-,4-,5-;015;0", 1, 2, 0);
        benches("cl0,l1,l2;6-,4-,5-;015;0", 0, 1, 2);
        benches("cf0,f1,f2;6-,4-,5-;015;0", 0, 2, 1);
        benches("cf0,f1;9-,30;015;0", 0, 1);
        benches("cf0,f1;9-,40;015;0", 0, 1);
        benches("cf0,f1;9-,50;015;0", 1, 0);
        benches("cf0,f1;40,9-;015;0", 0, 1);
        benches("cf0,f1;30,9-;015;0", 1, 0);
        benches("cf1,f0;8-,41;015;0", 0, 1);
        sentence("24: were none of them to sit");
        LoserPicks x = of("cp0,b1,s2,l3;6-,4-,5-,9-;015;0");
        for (int sits = 0; sits < 4; sits++) {
            x.seat(sits);
            along(0, x::bench, 1, 3, 2, 0);
        }
        sentence("24: which is best for PARTIES");
        // each party has whom it likes best, though each judge would like the other one better
        benches("cp1,b0;8-,3-;015;0", 1, 0);
        benches("cp0,b0,p1;8-,3-,2-;015;0", 2, 0, 1);
    }

    private static void p25() {
        sentence("25: in each of the next n (1 to 6) CASES; BAD");
        LoserPicks x = of("cs0,s0,s0;0-;" + row("015", 5) + ",205," + row("015", 6) + ";0");
        along(-1, n -> x.errors(2, n, 0, 0), BAD, BAD, 0, 0, 0, 0, 0, 1, BAD, BAD);
        along(-1, n -> x.errors(1, n, 0, 0), BAD, BAD, 0, 0, 0, 0, 0, 0, BAD, BAD);
        badFarOff(n -> x.errors(0, n, 1, 0));
        sentence("25: by q (0 to 10) of ten; in lowest terms: above (what 0), below (1)");
        along(-1, q -> x.errors(0, 1, q, 0), BAD, 1, 9, 4, 7, 3, 1, 2, 3, 1, 1, 0, BAD);
        along(-1, q -> x.errors(0, 1, q, 1), BAD, 1, 10, 5, 10, 5, 2, 5, 10, 5, 10, 1, BAD);
        along(-1, q -> x.errors(1, 1, q, 0), BAD, 0, 1, 1, 3, 2, 1, 3, 7, 4, 9, 1, BAD);
        along(-1, q -> x.errors(2, 1, q, 0), BAD, 0, 0, 0, 0, 0, 0, 0, 0, 0, 0, 0, BAD);
        along(-1, q -> x.errors(2, 1, q, 1), BAD, 1, 1, 1, 1, 1, 1, 1, 1, 1, 1, 1, BAD);
        badFarOff(q -> x.errors(0, 1, q, 0));
        along(-2, what -> x.errors(0, 1, 3, what), BAD, BAD, 7, 10, BAD, BAD);
        badFarOff(what -> x.errors(0, 1, 1, what));
        along(-1, p -> x.errors(p, 1, 3, 0), BAD, 7, 3, 0, BAD);
        badFarOff(p -> x.errors(p, 1, 3, 0));
        due(new LoserPicks().errors(0, 1, 0, 0), BAD);
        sentence("25: NONE: there are fewer CASES");
        for (int left = 0; left <= 7; left++) {
            LoserPicks y = twelve(12 - left);
            for (int n = 1; n <= 6; n++) {
                due(y.errors(0, n, 3, 0), n <= left ? 7 : NONE);
                due(y.errors(0, n, 3, 1), n <= left ? 10 : NONE);
                due(y.errors(1, n, 10, 1), n <= left ? 1 : NONE);
            }
            due(y.errors(0, 7, 3, 0), BAD);
        }
        sentence("25: each by itself: the most that is below");
        // the brute sits first, and still on the sixth case, unless the laugher lost by an error, by 59049 of 100000;
        // before him 0 wins the sixth by an error only, before the others but for one: 59049 * 1 + 40951 * 9
        LoserPicks z = of("cl0,s0;9-,0-,0-,0-,0-,0-;" + row("019", 5) + ",018;0");
        due(z.errors(0, 6, 1, 1), 125000);
        due(z.errors(0, 6, 1, 0), 53451);
        due(z.errors(1, 6, 1, 0), 71549);
        due(z.errors(1, 6, 1, 1), 125000);
        due(z.errors(0, 6, 0, 0), 0);
        due(z.errors(0, 6, 10, 0), 0);
        due(z.errors(1, 6, 10, 0), 1);
    }

    private static int draw(long x) {
        int left = (int) (x / 8 % 5);
        return left == 0 ? 1 : left == 1 ? 2 : 0;
    }

    private static void p26() {
        sentence("26: DECADES (n 0 .. 60; a SEED 1 .. 999999). BAD");
        for (int s : new int[] {1, 2, 7, 4711, 123456, 999998, 999999}) {
            int seed = s;
            LoserPicks x = of("cl0,s0;9-;015;0");
            // one judge, a saint, and a laugher who is up or down by 1, 0 at least and 20 at most
            int walk = 0;
            long draws = seed;
            for (int n = 0; n <= 60; n++) {
                due(x.decades(n, seed, 0), walk);
                due(x.decades(n, seed, 1), 0);
                draws = draws * 16807 % 2147483647L;
                walk = draw(draws) == 2 ? Math.max(walk - 1, 0) : Math.min(walk + 1, 20);
            }
            due(x.decades(-1, seed, 0), BAD);
            due(x.decades(61, seed, 0), BAD);
            badFarOff(n -> x.decades(n, seed, 0));
        }
        LoserPicks x = of("cl0,s0;9-;015;0");
        along(-1, seed -> x.decades(0, seed, 1), BAD, BAD, 0, 0);
        along(999998, seed -> x.decades(0, seed, 1), 0, 0, BAD, BAD);
        for (int far : new int[] {MIN, -1000, 1 << 30, MAX}) {
            due(x.decades(1, far, 0), BAD);
        }
        along(-2, what -> x.decades(1, 1, what), BAD, BAD, 1, 0, BAD, BAD);
        badFarOff(what -> x.decades(1, 1, what));
        sentence("26: NOT: no CIRCUIT");
        along(-1, n -> new LoserPicks().decades(n, 1, 0), BAD, NOT, NOT);
        along(59, n -> new LoserPicks().decades(n, 1, 1), NOT, NOT, BAD);
        sentence("26: over again from the first one, when all were HEARD");
        String start = "cp3,b2,l1;6-,3-,91;", three = "015,124,207";
        for (int seed = 1; seed <= 20; seed++) {
            for (int heard = 0; heard <= 3; heard++) {
                LoserPicks little = of(start + three + ";1");
                LoserPicks great = of(start + three + "," + three + "," + three + "," + three + ";1");
                hear(little, heard);
                hear(great, heard);
                long draws = seed;
                for (int n = 0; n <= 9; n++) {
                    due(little.decades(n, seed, 0), great.count(5));
                    due(little.decades(n, seed, 1), great.count(4));
                    draws = draws * 16807 % 2147483647L;
                    great.hear(draw(draws));
                }
                due(little.count(3), heard);
            }
        }
    }

    // ---- 4 sheets

    private static void p27and28() {
        sentence("27: A SHEET holds a new row of a LANE, of n items 0: n. BAD: also n above 24; SIZE: n below 0");
        LoserPicks x = new LoserPicks();
        along(-1, s -> x.sheet(s, 0, 3), BAD, 3, 3, 3, 3, BAD);
        along(-1, lane -> x.sheet(1, lane, 4), BAD, 4, 4, 4, 4, BAD);
        along(-2, n -> x.sheet(2, 2, n), SIZE, SIZE, 0, 1);
        along(23, n -> x.sheet(2, 2, n), 23, 24, BAD, BAD);
        badFarOff(s -> x.sheet(s, 0, 3));
        badFarOff(lane -> x.sheet(0, lane, 3));
        due(x.sheet(0, 0, MAX), BAD);
        due(x.sheet(0, 0, MIN), SIZE);
        lay(x, 0, 2, 5, 6, 7);
        due(x.sheet(0, 2, 3), 3);
        for (int i = 0; i < 3; i++) {
            due(seen(x, 0, 2, i), 0);
        }
        sentence("28: A SHEET holds nothing: how many items it had. BAD; NULL");
        for (int n = 0; n <= 24; n++) {
            due(x.sheet(1, 1, n), n);
            due(x.drop(1), n);
            due(x.drop(1), NULL);
        }
        due(x.item(1, 1, 0, 0), NULL);
        along(-1, x::drop, BAD, 3, NULL, 24, 2, BAD);
        along(-1, x::drop, BAD, NULL, NULL, NULL, NULL, BAD);
        badFarOff(x::drop);
    }

    private static void p29and30() {
        sentence("29: Item i of a SHEET, taken as a row of a LANE. BAD; NULL; CAST; INDEX");
        LoserPicks x = new LoserPicks();
        x.sheet(0, 1, 24);
        x.sheet(1, 1, 1);
        x.sheet(2, 1, 0);
        along(-1, i -> x.item(0, 1, i, 8), INDEX, 8, 8);
        along(22, i -> x.item(0, 1, i, 8), 8, 8, INDEX, INDEX);
        along(-1, i -> x.item(1, 1, i, 8), INDEX, 8, INDEX);
        along(-1, i -> x.item(2, 1, i, 8), INDEX, INDEX, INDEX);
        along(-1, i -> x.item(3, 1, i, 8), NULL, NULL, NULL);
        along(-1, lane -> x.item(0, lane, 0, 8), BAD, CAST, 8, CAST, CAST, BAD);
        along(-1, s -> x.item(s, 1, 0, 8), BAD, 8, 8, INDEX, NULL, BAD);
        badFarOff(s -> x.item(s, 1, 0, 8));
        badFarOff(lane -> x.item(0, lane, 0, 8));
        due(x.item(0, 1, MIN, 8), INDEX);
        due(x.item(0, 1, MAX, 8), INDEX);
        sentence("30: n items of a SHEET from i on come to another one from j on: n. INDEX (n below 0, too)");
        LoserPicks y = new LoserPicks();
        y.sheet(0, 2, 5);
        y.sheet(1, 2, 3);
        along(-1, n -> y.copy(0, 0, 1, 0, n), INDEX, 0, 1, 2, 3, INDEX);
        along(-1, n -> y.copy(1, 0, 0, 0, n), INDEX, 0, 1, 2, 3, INDEX);
        along(-1, n -> y.copy(0, 3, 1, 0, n), INDEX, 0, 1, 2, INDEX);
        along(-1, n -> y.copy(0, 0, 1, 2, n), INDEX, 0, 1, INDEX);
        along(-1, i -> y.copy(0, i, 1, 0, 3), INDEX, 3, 3, 3, INDEX);
        along(-1, i -> y.copy(0, i, 1, 3, 0), INDEX, 0, 0, 0, 0, 0, 0, INDEX);
        along(-1, j -> y.copy(0, 0, 1, j, 2), INDEX, 2, 2, INDEX);
        along(-1, j -> y.copy(0, 5, 1, j, 0), INDEX, 0, 0, 0, 0, INDEX);
        for (int far : new int[] {MIN, MAX}) {
            due(y.copy(0, far, 1, 0, 1), INDEX);
            due(y.copy(0, 0, 1, far, 1), INDEX);
            due(y.copy(0, 1, 1, 1, far), INDEX);
            due(y.copy(0, far, 1, far, far), INDEX);
        }
        sentence("30: BAD; NULL (either); CAST: of unlike LANES");
        y.sheet(2, 1, 5);
        along(-1, s -> y.copy(s, 0, 0, 0, 1), BAD, 1, 1, CAST, NULL, BAD);
        along(-1, s -> y.copy(0, 0, s, 0, 1), BAD, 1, 1, CAST, NULL, BAD);
        badFarOff(s -> y.copy(s, 0, 0, 0, 1));
        badFarOff(s -> y.copy(0, 0, s, 0, 1));
        due(y.copy(3, 0, 3, 0, 0), NULL);
        for (int a = 0; a < 4; a++) {
            for (int b = 0; b < 4; b++) {
                y.sheet(0, a, 1);
                y.sheet(1, b, 1);
                due(y.copy(0, 0, 1, 0, 1), a == b ? 1 : CAST);
                due(y.copy(0, 0, 1, 0, 0), a == b ? 0 : CAST);
            }
        }
        sentence("30: (or the same), as if all were taken ahead");
        copied(0, 1, 4, 1, 1, 2, 3, 4, 6);
        copied(1, 0, 4, 2, 3, 4, 5, 5, 6);
        copied(0, 0, 6, 1, 2, 3, 4, 5, 6);
        copied(0, 2, 4, 1, 2, 1, 2, 3, 4);
        copied(2, 0, 4, 3, 4, 5, 6, 5, 6);
        copied(5, 0, 1, 6, 2, 3, 4, 5, 6);
        copied(3, 3, 0, 1, 2, 3, 4, 5, 6);
    }

    /** Of 1 to 6 in one sheet n are copied from i to j. */
    private static void copied(int i, int j, int n, int... want) {
        for (int lane = 0; lane < 4; lane++) {
            LoserPicks x = new LoserPicks();
            lay(x, 0, lane, 1, 2, 3, 4, 5, 6);
            due(x.copy(0, i, 0, j, n), n);
            for (int k = 0; k < 6; k++) {
                due(seen(x, 0, lane, k), want[k]);
            }
        }
    }

    private static void p31() {
        sentence("31: Who wins the next n CASES (1 .. 12), an item each, comes to a SHEET from i on: n. BAD");
        LoserPicks x = of(TWELVE);
        x.sheet(0, 0, 24);
        x.sheet(1, 1, 12);
        along(-1, n -> x.log(0, 0, 0, n), BAD, BAD, 1, 2);
        along(11, n -> x.log(0, 0, 0, n), 11, 12, BAD, BAD);
        badFarOff(n -> x.log(0, 0, 0, n));
        along(-1, s -> x.log(s, 0, 0, 1), BAD, 1, CAST, NULL, NULL, BAD);
        along(-1, lane -> x.log(0, lane, 0, 1), BAD, 1, CAST, CAST, CAST, BAD);
        badFarOff(s -> x.log(s, 0, 0, 1));
        badFarOff(lane -> x.log(0, lane, 0, 1));
        sentence("31: INDEX");
        along(-1, i -> x.log(0, 0, i, 12), INDEX, 12, 12);
        along(11, i -> x.log(0, 0, i, 12), 12, 12, INDEX);
        along(22, i -> x.log(0, 0, i, 1), 1, 1, INDEX, INDEX);
        along(-1, i -> x.log(1, 1, i, 12), INDEX, 12, INDEX);
        due(x.log(0, 0, MIN, 1), INDEX);
        due(x.log(0, 0, MAX, 1), INDEX);
        sentence("31: NOT: there are fewer");
        for (int left = 0; left <= 12; left++) {
            LoserPicks y = twelve(12 - left);
            y.sheet(3, 3, 12);
            for (int n = 1; n <= 12; n++) {
                due(y.log(3, 3, 0, n), n <= left ? n : NOT);
            }
            due(y.log(3, 3, 0, 13), BAD);
        }
        LoserPicks none = new LoserPicks();
        none.sheet(0, 0, 1);
        due(none.log(0, 0, 0, 1), NOT);
        sentence("31: only the items from i on, n of them");
        int[] won = {1, 1, 2, 4, 0, 0, 2};
        for (int n = 1; n <= 7; n++) {
            LoserPicks z = of(ALL);
            lay(z, 0, 3, 9, 9, 9, 9, 9, 9, 9, 9, 9);
            due(z.log(0, 3, 1, n), n);
            for (int k = 0; k < 9; k++) {
                due(seen(z, 0, 3, k), k >= 1 && k <= n ? won[k - 1] : 9);
            }
        }
    }

    private static void p32() {
        sentence("32: LEANS by n pairs (1 to 10), items from i on. BAD");
        LoserPicks x = of(SCALE);
        x.sheet(0, 0, 24);
        x.sheet(1, 1, 2);
        for (int i = 0; i < 24; i += 2) {
            x.item(0, 0, i, 9);
        }
        along(-1, n -> x.leans(0, 0, 0, 0, n, 0), BAD, BAD, 1023, 1023);
        along(9, n -> x.leans(0, 0, 0, 0, n, 0), 1023, 1023, BAD, BAD);
        badFarOff(n -> x.leans(0, 0, 0, 0, n, 0));
        along(-1, j -> x.leans(j, 0, 0, 0, 1, 0), BAD, 1023, BAD);
        badFarOff(j -> x.leans(j, 0, 0, 0, 1, 0));
        along(-1, s -> x.leans(0, s, 0, 0, 1, 0), BAD, 1023, CAST, NULL, NULL, BAD);
        badFarOff(s -> x.leans(0, s, 0, 0, 1, 0));
        along(-1, lane -> x.leans(0, 0, lane, 0, 1, 0), BAD, 1023, CAST, CAST, CAST, BAD);
        badFarOff(lane -> x.leans(0, 0, lane, 0, 1, 0));
        along(-2, what -> x.leans(0, 0, 0, 0, 1, what), BAD, BAD, 1023, 4, BAD, BAD);
        badFarOff(what -> x.leans(0, 0, 0, 0, 1, what));
        sentence("32: INDEX");
        along(-2, i -> x.leans(0, 0, 0, 2 * i, 1, 0), INDEX, INDEX, 1023);
        along(11, i -> x.leans(0, 0, 0, 2 * i, 1, 0), 1023, INDEX);
        due(x.leans(0, 0, 0, 23, 1, 0), INDEX);
        due(x.leans(0, 0, 0, -1, 1, 0), INDEX);
        due(x.leans(0, 0, 0, 4, 10, 0), 1023);
        due(x.leans(0, 0, 0, 5, 10, 0), INDEX);
        due(x.leans(0, 0, 0, MIN, 1, 0), INDEX);
        due(x.leans(0, 0, 0, MAX, 10, 0), INDEX);
        due(x.leans(0, 1, 1, 0, 1, 0), 1);
        due(x.leans(0, 1, 1, 0, 2, 0), INDEX);
        sentence("32: of n pairs the last one counts, the one behind it does not");
        for (int n = 1; n <= 10; n++) {
            LoserPicks y = of(SCALE);
            y.sheet(0, 0, 24);
            for (int i = 0; i < 24; i += 2) {
                y.item(0, 0, i, 9);
            }
            y.item(0, 0, 2 * n, 3);
            due(y.leans(0, 0, 0, 0, n, 0), 1023);
            due(y.leans(0, 0, 0, 2, n, 0), 15);
            due(y.leans(0, 0, 0, 2 * n, 1, 0), 15);
        }
        leansAtTheEnds();
    }

    private static void leansAtTheEnds() {
        sentence("32: those (0 to 9) that a JUDGE may have");
        for (int at = 0; at <= 9; at++) {
            LoserPicks x = of(SCALE);
            lay(x, 0, 2, at, 0, at, 1);
            due(x.leans(0, 0, 2, 0, 1, 0), (1 << at + 1) - 1);
            due(x.leans(0, 0, 2, 2, 1, 0), 1023 & -1 << at + 1);
            due(x.leans(0, 0, 2, 0, 2, 0), 0);
        }
        // 9 and 2 is as much as 11, 0 less 2 less than any
        LoserPicks x = of("cp0,p0;00,91,5-;019,010,018,017;0");
        lay(x, 0, 2, 0, 1, 1, 0, 1, 1, 2, 1, 3, 1, 2, 0);
        due(x.leans(0, 0, 2, 0, 1, 0), 0);
        due(x.leans(0, 0, 2, 2, 1, 0), 7);
        due(x.leans(1, 0, 2, 0, 1, 0), 1023 - 255);
        due(x.leans(1, 0, 2, 2, 1, 0), 0);
        due(x.leans(1, 0, 2, 4, 1, 0), 1023);
        due(x.leans(0, 0, 2, 6, 1, 0), 0);
        due(x.leans(0, 0, 2, 8, 1, 0), 0);
        due(x.leans(2, 0, 2, 8, 2, 0), 256);
        sentence("32: TRY: the CASE by which the greater part is least, of like ones the first");
        LoserPicks y = of(SCALE);
        for (int at = 0; at <= 9; at++) {
            lay(y, 0, 2, at, 0);
            // of 0 to at half are for the plaintiff of the case in the middle
            due(y.leans(0, 0, 2, 0, 1, 1), at == 0 ? 0 : (at - 1) / 2);
        }
        LoserPicks same = of("cp0,p0;5-;019,018,010,019,018,010;0");
        lay(same, 0, 0, 0, 0, 2, 0, 2, 1);
        due(same.leans(0, 0, 0, 0, 1, 0), 1023);
        due(same.leans(0, 0, 0, 0, 1, 1), 1);
        due(same.leans(0, 0, 0, 2, 1, 0), 1);
        due(same.leans(0, 0, 0, 2, 1, 1), 0);
        due(same.leans(0, 0, 0, 4, 1, 0), 1022);
        due(same.leans(0, 0, 0, 4, 1, 1), 1);
        LoserPicks fewer = of(SCALE);
        read(fewer, SCALE);
        read(fewer, "cp0,p0;5-;019;0");
        lay(fewer, 0, 0, 0, 0);
        due(fewer.leans(0, 0, 0, 0, 1, 0), 1023);
        due(fewer.leans(0, 0, 0, 0, 1, 1), 0);
        sentence("32: (of all), HEARD or not");
        hear(same, 6);
        due(same.leans(0, 0, 0, 0, 1, 1), 1);
        due(same.leans(0, 0, 0, 4, 1, 1), 1);
        sentence("32: NONE: there is no LEAN");
        due(same.leans(0, 0, 0, 2, 2, 0), 0);
        due(same.leans(0, 0, 0, 2, 2, 1), NONE);
        sentence("32: NOT: an item that is no CASE, neither 0 nor 1");
        LoserPicks z = of(ALL);
        for (int lane = 0; lane < 4; lane++) {
            int in = lane;
            z.sheet(0, lane, 2);
            along(-2, v -> z.item(0, in, 0, v) - v + z.leans(0, 0, in, 0, 1, 0), NOT, NOT, 31, 15, 63, 1, 511, 63, 255,
                NOT, NOT);
            z.item(0, lane, 0, 6);
            along(-2, v -> z.item(0, in, 1, v) - v + z.leans(0, 0, in, 0, 1, 0), NOT, NOT, 255, 768, NOT, NOT);
            due(z.leans(0, 0, in, 0, 1, 1), NOT);
        }
    }

    private static void p33() {
        sentence("33: KINDS by n pairs (1 to 10), items from i on. BAD");
        LoserPicks x = of(ALL);
        x.sheet(0, 0, 24);
        x.sheet(1, 1, 2);
        along(-1, n -> x.kinds(0, 0, 0, 0, n, 0), BAD, BAD, 8, 8);
        along(9, n -> x.kinds(0, 0, 0, 0, n, 0), 8, 8, BAD, BAD);
        badFarOff(n -> x.kinds(0, 0, 0, 0, n, 0));
        along(-1, p -> x.kinds(p, 0, 0, 0, 1, 0), BAD, 8, 8, 8, 8, 8, BAD);
        badFarOff(p -> x.kinds(p, 0, 0, 0, 1, 0));
        along(-1, s -> x.kinds(0, s, 0, 0, 1, 0), BAD, 8, CAST, NULL, NULL, BAD);
        badFarOff(s -> x.kinds(0, s, 0, 0, 1, 0));
        along(-1, lane -> x.kinds(0, 0, lane, 0, 1, 0), BAD, 8, CAST, CAST, CAST, BAD);
        badFarOff(lane -> x.kinds(0, 0, lane, 0, 1, 0));
        along(-2, what -> x.kinds(0, 0, 0, 0, 1, what), BAD, BAD, 8, 0, BAD, BAD);
        badFarOff(what -> x.kinds(0, 0, 0, 0, 1, what));
        sentence("33: INDEX");
        due(x.kinds(0, 0, 0, -1, 1, 0), INDEX);
        along(21, i -> x.kinds(0, 0, 0, i, 1, 0), 8, 8, INDEX, INDEX);
        along(3, i -> x.kinds(0, 0, 0, i, 10, 0), 8, 8, INDEX);
        due(x.kinds(0, 0, 0, MIN, 1, 0), INDEX);
        due(x.kinds(0, 0, 0, MAX, 10, 0), INDEX);
        due(x.kinds(0, 1, 1, 0, 1, 0), 8);
        due(x.kinds(0, 1, 1, 0, 2, 0), INDEX);
        sentence("33: of n pairs the last one counts, the one behind it does not");
        for (int n = 1; n <= 10; n++) {
            LoserPicks y = of(ALL);
            y.sheet(0, 0, 24);
            y.item(0, 0, 2 * n + 1, 1);
            due(y.kinds(0, 0, 0, 0, n, 0), 8);
            due(y.kinds(0, 0, 0, 2, n, 0), n == 1 ? 16 : 0);
            due(y.kinds(0, 0, 0, 2 * n, 1, 0), 16);
        }
        kindsAtTheEnds();
    }

    private static void kindsAtTheEnds() {
        sentence("33: as a set (bits 1 .. 5)");
        // least lean 2, greatest 3, who favours 0: 4; a laugher names the next, a saint the same
        LoserPicks x = of("cp0,p0;5-,5-,1-,9-,80,5-;015;0");
        lay(x, 0, 2, 0, 2, 0, 3, 0, 0, 0, 1, 0, 4, 0, 5, 5, 0, 5, 2);
        along(0, k -> x.kinds(0, 0, 2, 2 * k, 1, 0), 2, 4, 8, 16, 32, 0, 16, 2);
        along(0, k -> x.kinds(1, 0, 2, 2 * k, 1, 0), 2, 36, 8, 16, 0, 0, 16, 2);
        due(x.kinds(0, 0, 2, 0, 2, 0), 0);
        LoserPicks one = of("cp0,p0;50;015;0");
        one.sheet(0, 0, 20);
        due(one.kinds(0, 0, 0, 0, 10, 0), 62);
        sentence("33: TRY: the JUDGE to sit by whom the greatest part is least, of like ones the first");
        due(one.kinds(0, 0, 0, 0, 10, 1), 0);
        due(x.kinds(1, 0, 2, 2, 1, 1), 0);
        LoserPicks two = of("cp0,p0;0-,9-;015;0");
        lay(two, 0, 0, 0, 1);
        due(two.kinds(0, 0, 0, 0, 1, 0), 62 - 8);
        due(two.kinds(0, 0, 0, 0, 1, 1), 0);
        // before 0 a bitter one alone names 3; 1, who favours it, is named by a plain one, a laugher, a feared one
        LoserPicks y = of("cp0,p0;5-,51,8-,9-;015;0");
        lay(y, 0, 1, 0, 3, 0, 1);
        due(y.kinds(1, 0, 1, 0, 1, 0), 4);
        due(y.kinds(1, 0, 1, 2, 1, 0), 2 + 16 + 32);
        // before 0 all name 1; before 1: 0, 2, 3; before 2: 0, 3, 1, as good, but behind
        due(y.kinds(1, 0, 1, 2, 1, 1), 1);
        y.lean(0, 6);
        lay(y, 0, 1, 3, 1, 3, 0);
        due(y.kinds(1, 0, 1, 0, 1, 0), 2 + 32);
        due(y.kinds(1, 0, 1, 0, 1, 1), 1);
        due(y.kinds(1, 0, 1, 2, 1, 0), 16);
        due(y.kinds(1, 0, 1, 2, 1, 1), 0);
        sentence("33: NONE: there is no KIND");
        due(y.kinds(1, 0, 1, 0, 2, 0), 0);
        due(y.kinds(1, 0, 1, 0, 2, 1), NONE);
        sentence("33: NOT: an item that is no JUDGE");
        LoserPicks z = of(ALL);
        for (int lane = 0; lane < 4; lane++) {
            int in = lane;
            z.sheet(0, lane, 2);
            along(-2, v -> z.item(0, in, 0, v) - v + z.kinds(0, 0, in, 0, 1, 0), NOT, NOT, 8, 0, 2, 16, NOT, NOT);
            z.item(0, lane, 0, 3);
            along(-2, v -> z.item(0, in, 1, v) - v + z.kinds(0, 0, in, 0, 1, 0), NOT, NOT, 16, 4 + 32, 2, 8, NOT, NOT);
            due(z.kinds(0, 0, in, 0, 1, 1), NOT);
        }
    }

    private static void p34() {
        sentence("34: 0 PARTIES .. 8 bytes of THE TAPE. BAD");
        LoserPicks x = of(MOST);
        along(-2, x::count, BAD, BAD, 6, 6, 12, 0, 5, 39, 0, 0, 0, BAD, BAD);
        badFarOff(x::count);
        hear(x, 12);
        due(x.count(3), 12);
        due(x.count(7), 12);
        LoserPicks least = of("cs0,s0;0-;019;0");
        along(-1, least::count, BAD, 2, 1, 1, 0, 0, 0, 0, 0, 0, BAD);
        least.hear(0);
        along(-1, least::count, BAD, 2, 1, 1, 1, 0, 0, 1, 1, 0, BAD);
        sentence("34: 5 GRIEVANCE of all together, from 0 to 20 each");
        LoserPicks worst = of("c" + row("f9", 6) + ";0-;019,129,239,349,459,509;0");
        due(worst.count(5), 54);
        for (int k = 0; k < 6; k++) {
            worst.hear(1);
        }
        due(worst.count(5), 20 * 5 + 19);
        sentence("34: 6 CASES that were HEARD and are won JUSTLY (thrown or not)");
        LoserPicks y = of("cs0,s0;0-;014,014,015,015;0");
        int[] throwing = {0, 1, 0, 1};
        int[] just = {0, 0, 1, 2, 2};
        for (int k = 0; k < 4; k++) {
            due(y.count(6), just[k]);
            y.hear(throwing[k]);
        }
        due(y.count(6), just[4]);
        sentence("34: (but 4, 8: 0 without a CIRCUIT), 4 who sits (NONE: no CIRCUIT)");
        LoserPicks none = new LoserPicks();
        for (int n = 0; n <= 3; n++) {
            along(-1, none::count, BAD, 0, 0, 0, 0, NONE, 0, 0, 0, n, BAD);
            none.feed(99);
        }
    }

    public static void main(String[] args) {
        p1to3();
        p4and5();
        p6and7();
        p8and9();
        p10and11();
        p12to14();
        p15to17();
        p18();
        p19();
        p20and21();
        p22();
        p23();
        p24();
        p25();
        p26();
        p27and28();
        p29and30();
        p31();
        p32();
        p33();
        p34();
        finish("edges");
    }
}
