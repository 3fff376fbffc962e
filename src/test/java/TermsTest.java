import java.util.ArrayList;
import java.util.List;

/** The part "Terms", paragraphs 1, 2 and 4, sentence by sentence: each bound, and a step on either side of it. */
public final class TermsTest extends Checks {
    private static final String FIGURES = "0123456789", LETTERS = "pbslf";

    // ---- 1 the tape

    private static void tapeLength() {
        sentence("1: THE TAPE has at most 130 bytes, that come one by one");
        LoserPicks x = new LoserPicks();
        for (int n = 1; n <= 130; n++) {
            due(x.feed(n), n);
            due(x.count(8), n);
        }
        due(x.feed(99), FULL);
        due(x.feed(99), FULL);
        due(x.count(8), 130);
        due(x.circuit(), -100);
        due(x.count(8), 0);
        due(x.feed(99), 1);
        // the byte that was refused is not there, and all of those that were taken are
        x = new LoserPicks();
        feed(x, MOST + "x".repeat(130 - MOST.length()));
        due(x.count(8), 130);
        due(x.circuit(), -100 - MOST.length());
        due(read(x, MOST), 12);
    }

    /** What may stand at each place of a text that is a circuit of p parties, j judges and c cases. */
    private static List<String> allowed(String text, int p, int j, int c) {
        List<String> at = new ArrayList<>();
        String some = FIGURES.substring(0, p);
        at.add("c");
        for (int k = 1; k <= p; k++) {
            at.add(LETTERS);
            at.add(FIGURES);
            at.add(k < 2 ? "," : k < 6 ? ",;" : ";");
        }
        for (int k = 1; k <= j; k++) {
            at.add(FIGURES);
            at.add("-" + some);
            at.add(k < 6 ? ",;" : ";");
        }
        for (int k = 1; k <= c; k++) {
            at.add(some);
            at.add(some.replace("" + text.charAt(at.size() - 1), ""));
            at.add(FIGURES);
            at.add(k < 12 ? ",;" : ";");
        }
        at.add(FIGURES.substring(0, j));
        at.add("");
        return at;
    }

    private static void eachByteAtEachPlace(String text, int p, int j, int c) {
        List<String> allowed = allowed(text, p, j, c);
        due(allowed.size(), text.length() + 1);
        for (int place = 0; place <= text.length(); place++) {
            for (int b = 0; b < 256; b++) {
                LoserPicks x = new LoserPicks();
                feed(x, text.substring(0, place));
                x.feed(b);
                boolean stands = allowed.get(place).indexOf(b) >= 0;
                int ended = place == text.length() - 1 ? c : -100 - (place + 1);
                due(x.circuit(), stands ? ended : -100 - place);
                due(x.count(2), stands && ended == c ? c : 0);
            }
        }
    }

    private static void faultPlaces() {
        sentence("1: A FAULT is the place of the first byte that cannot stand there; the end: how many bytes there are");
        eachByteAtEachPlace("cp0,b9;4-;015;0", 2, 1, 1);
        eachByteAtEachPlace("cf0,l9,s3;41,90;205,109,018;1", 3, 2, 3);
        eachByteAtEachPlace(MOST, 6, 6, 12);
        due(new LoserPicks().circuit(), -100);
        sentence("1: the first FAULT counts, not a later one; all bytes behind it are of no matter");
        due(read(new LoserPicks(), "cp0,x0;4-;005;7"), -104);
        due(read(new LoserPicks(), "cp0,p0;4-;005;7"), -111);
        due(read(new LoserPicks(), "cp0,p0;4-;015;7;"), -114);
        sentence("1: No blanks");
        String text = "cp0,b9;4-;015;0";
        for (int place = 0; place <= text.length(); place++) {
            due(read(new LoserPicks(), text.substring(0, place) + " " + text.substring(place)), -100 - place);
        }
    }

    private static void howManyOfEach() {
        sentence("1: 2 to 6 PARTIES; too few: the ; that comes too early; one too many: its , ahead");
        for (int p = 1; p <= 8; p++) {
            LoserPicks x = new LoserPicks();
            int answer = read(x, "c" + row("p5", p) + ";5-;015;0");
            due(answer, p < 2 ? -103 : p > 6 ? -118 : 1);
            due(x.count(0), answer == 1 ? p : 0);
            due(x.party(p - 1, 1), answer == 1 ? 5 : BAD);
        }
        due(read(new LoserPicks(), "c;5-;015;0"), -101);
        sentence("1: 1 to 6 JUDGES; one too many: its , ahead");
        for (int j = 0; j <= 8; j++) {
            LoserPicks x = new LoserPicks();
            int answer = read(x, "cp0,p0;" + row("7-", j) + ";015;0");
            due(answer, j < 1 ? -107 : j > 6 ? -124 : 1);
            due(x.count(1), answer == 1 ? j : 0);
            due(x.judge(j - 1, 0), answer == 1 ? 7 : BAD);
        }
        sentence("1: 1 to 12 CASES; one too many: its , ahead");
        for (int c = 0; c <= 14; c++) {
            LoserPicks x = new LoserPicks();
            int answer = read(x, "cp0,p0;5-;" + row("018", c) + ";0");
            due(answer, c < 1 ? -110 : c > 12 ? -157 : c);
            due(x.count(2), answer > 0 ? c : 0);
            due(x.trial(c - 1, 2), answer > 0 ? 8 : BAD);
        }
    }

    private static void figures() {
        sentence("1: whom he FAVOURS, a PLAINTIFF, a DEFENDANT: the figure of a PARTY");
        for (int p = 2; p <= 6; p++) {
            String parties = "c" + row("p0", p) + ";";
            int start = parties.length();
            due(read(new LoserPicks(), parties + "5" + (p - 1) + ";015;0"), 1);
            due(read(new LoserPicks(), parties + "5" + p + ";015;0"), -100 - (start + 1));
            due(read(new LoserPicks(), parties + "5-;" + (p - 1) + "05;0"), 1);
            due(read(new LoserPicks(), parties + "5-;" + p + "05;0"), -100 - (start + 3));
            due(read(new LoserPicks(), parties + "5-;0" + (p - 1) + "5;0"), 1);
            due(read(new LoserPicks(), parties + "5-;0" + p + "5;0"), -100 - (start + 4));
        }
        sentence("1: figures of unlike PARTIES; a DEFENDANT like the PLAINTIFF: that");
        for (int a = 0; a < 6; a++) {
            for (int b = 0; b < 6; b++) {
                LoserPicks x = new LoserPicks();
                due(read(x, "c" + row("p0", 6) + ";5-;" + a + b + "5;0"), a == b ? -123 : 1);
                due(x.trial(0, 0), a == b ? BAD : a);
                due(x.trial(0, 1), a == b ? BAD : b);
            }
        }
        sentence("1: SITS is the figure of the JUDGE who sits first");
        for (int j = 1; j <= 6; j++) {
            String text = "cp0,p0;" + row("5-", j) + ";015;";
            for (int sits = 0; sits <= 9; sits++) {
                LoserPicks x = new LoserPicks();
                due(read(x, text + sits), sits < j ? 1 : -100 - text.length());
                due(x.count(4), sits < j ? sits : NONE);
            }
        }
        sentence("1: GRIEVANCE, LEAN, WEIGHT: a figure, 0 to 9; - nobody");
        for (int v = 0; v <= 9; v++) {
            LoserPicks x = of("cp" + v + ",p0;" + v + "-;01" + v + ";0");
            due(x.party(0, 1), v);
            due(x.judge(0, 0), v);
            due(x.judge(0, 1), NONE);
            due(x.trial(0, 2), v);
        }
        sentence("1: Letters: p PLAIN, b BITTER, s SAINT, l LAUGHER, f FEARED");
        for (int k = 0; k < 5; k++) {
            due(of("c" + LETTERS.charAt(k) + "0,p0;5-;015;0").party(0, 0), k + 1);
        }
    }

    private static void inPlaceOfTheOneBefore() {
        sentence("1: A CIRCUIT that is read stands in place of the one before: CASE 0 is next, WINS 0");
        LoserPicks x = of(MOST);
        hear(x, 12);
        due(x.count(3), 12);
        due(read(x, MOST), 12);
        due(x.count(3), 0);
        due(x.count(4), 5);
        due(x.count(6), 0);
        for (int p = 0; p < 6; p++) {
            due(x.party(p, 2), 0);
            due(x.party(p, 1), 9 - p);
        }
        for (int at = 0; at < 12; at++) {
            due(x.trial(at, 3), NONE);
        }
        sentence("1: nothing can be undone");
        due(x.undo(), NONE);
        due(x.count(7), 0);
        sentence("1: a smaller CIRCUIT has nothing of the greater one before it, and the other way about");
        due(read(x, "cl1,s2;37;045;0"), -108);
        due(read(x, "cl1,s2;31;105;0"), 1);
        due(x.party(2, 0), BAD);
        due(x.judge(1, 0), BAD);
        due(x.trial(1, 0), BAD);
        due(x.count(5), 3);
        due(read(x, MOST), 12);
        due(x.party(5, 0), 1);
        due(x.judge(5, 1), 0);
        due(x.trial(11, 0), 5);
        sentence("1: all else stays: images and sheets");
        x = of(ALL);
        x.hear(0);
        x.image(1);
        lay(x, 0, 1, 4, 7);
        due(read(x, SCALE), 10);
        due(x.restore(0), NOT);
        due(seen(x, 0, 1, 0), 4);
        due(seen(x, 0, 1, 1), 7);
        due(x.drop(0), 2);
        due(x.restore(1), 1);
        due(x.count(2), 7);
    }

    // ---- 2 findings, namings, hearings

    private static void findings() {
        sentence("2: A JUDGE FINDS for the PLAINTIFF, if WEIGHT, by favour, is as much as his LEAN, or more");
        int[] favour = {0, 2, -2, 0};
        for (int weight = 0; weight <= 9; weight++) {
            LoserPicks x = of("cp0,p0,p0;0-,00,01,02;01" + weight + ";0");
            for (int lean = 0; lean <= 9; lean++) {
                for (int j = 0; j < 4; j++) {
                    due(x.lean(j, lean), lean == 0 ? NOT : lean - 1);
                    due(x.finds(j, 0), weight + favour[j] >= lean ? 0 : 1);
                }
            }
        }
        // the same case about: whom he favours counts, not who has the lower number
        LoserPicks x = of("cp0,p0;50,51;103,102,107,106;0");
        due(x.finds(0, 0), 0);
        due(x.finds(1, 0), 1);
        due(x.finds(1, 1), 0);
        due(x.finds(0, 2), 1);
        due(x.finds(0, 3), 0);
    }

    private static void namings() {
        sentence("2: NAMES: a PLAIN one the JUDGE of the least LEAN, of like ones the first, not the one who sits");
        LoserPicks x = of("cp0,p0;30,20,20,40;015;0");
        along(-1, j -> x.names(0, j), BAD, 1, 2, 1, 1, BAD);
        x.lean(2, 1);
        along(0, j -> x.names(0, j), 2, 2, 1, 2);
        x.lean(2, 3);
        along(0, j -> x.names(0, j), 1, 0, 1, 1);
        sentence("2: NAMES: a BITTER one of the greatest");
        LoserPicks y = of("cb0,p0;60,70,70,50;015;0");
        along(-1, j -> y.names(0, j), BAD, 1, 2, 1, 1, BAD);
        y.lean(2, 8);
        along(0, j -> y.names(0, j), 2, 2, 1, 2);
        y.lean(2, 6);
        along(0, j -> y.names(0, j), 1, 0, 1, 1);
        sentence("2: NAMES: a FEARED one as a BITTER one, LEAN 5 more for one who FAVOURS it");
        LoserPicks z = of("cf0,p0,f0;40,9-,31,3-;015;3");
        along(0, j -> z.names(0, j), 1, 0, 0, 0);
        along(0, j -> z.names(2, j), 1, 0, 1, 1);
        z.lean(0, 3);
        along(0, j -> z.names(0, j), 1, 0, 1, 1);
        z.lean(0, 5);
        z.lean(3, 8);
        along(0, j -> z.names(0, j), 1, 0, 0, 0);
        LoserPicks tie = of("cf0,p0;9-,40;015;0");
        due(tie.names(0, 0), 1);
        LoserPicks behind = of("cf0,p0;9-,40,0-;015;2");
        due(behind.names(0, 2), 0);
        behind.lean(1, 5);
        due(behind.names(0, 2), 1);
        behind.lean(1, 9);
        behind.lean(0, 8);
        due(behind.names(0, 2), 1);
        sentence("2: NAMES: a LAUGHER the next one by numbers (the first one behind the last)");
        for (int n = 1; n <= 6; n++) {
            LoserPicks l = of("cl0,p0;" + row("5-", n) + ";015;0");
            for (int j = 0; j < n; j++) {
                due(l.names(0, j), j == n - 1 ? 0 : j + 1);
            }
        }
        sentence("2: NAMES: a SAINT the one who sits");
        LoserPicks s = of("cs0,p0;40,9-,01,3-,50,5-;015;3");
        along(-1, j -> s.names(0, j), BAD, 0, 1, 2, 3, 4, 5, BAD);
        sentence("2: none of these the one who sits, unless there is no other");
        for (int k = 0; k < 5; k++) {
            due(of("c" + LETTERS.charAt(k) + "0,p0;50;015;0").names(0, 0), 0);
            LoserPicks two = of("c" + LETTERS.charAt(k) + "0,p0;50,50;015;0");
            due(two.names(0, 0), k == 2 ? 0 : 1);
            due(two.names(0, 1), k == 2 ? 1 : 0);
        }
    }

    private static void hurts() {
        sentence("2: A loss HURTS a PLAIN one by WEIGHT, BITTER twice, FEARED 1 more, a SAINT 0, a LAUGHER 1");
        for (int weight = 0; weight <= 9; weight++) {
            int[] hurt = {weight, 2 * weight, 0, 1, 2 * weight + 1};
            for (int k = 0; k < 5; k++) {
                LoserPicks x = of("c" + LETTERS.charAt(k) + "0,s0;0-;01" + weight + ";0");
                due(x.hear(1), 1);
                due(x.party(0, 1), hurt[k]);
                due(x.party(1, 1), 0);
                x = of("cs0," + LETTERS.charAt(k) + "0;0-;01" + weight + ";0");
                due(x.hear(2), 0);
                due(x.party(1, 1), hurt[k]);
            }
        }
    }

    /** The grievance of party 0 as it was read, and behind each case, the plaintiff throwing it. */
    private static void losing(char letter, String weights, int... grievance) {
        StringBuilder cases = new StringBuilder();
        for (char w : weights.toCharArray()) {
            cases.append(cases.length() == 0 ? "" : ",").append("01").append(w);
        }
        LoserPicks x = of("c" + letter + grievance[0] + ",s0;0-;" + cases + ";0");
        for (int k = 0; k < weights.length(); k++) {
            due(x.party(0, 1), grievance[k]);
            due(x.hear(1), 1);
        }
        due(x.party(0, 1), grievance[weights.length()]);
        for (int k = weights.length() - 1; k >= 0; k--) {
            due(x.undo(), k);
            due(x.party(0, 1), grievance[k]);
        }
    }

    private static void grievanceBounds() {
        sentence("2: the loser GRIEVANCE more by what it HURTS (20 at most)");
        losing('p', "91119", 9, 18, 19, 20, 20, 20);
        losing('p', "92", 9, 18, 20);
        losing('p', "93", 9, 18, 20);
        losing('p', "99", 9, 18, 20);
        losing('p', "9200", 9, 18, 20, 20, 20);
        losing('b', "51", 9, 19, 20);
        losing('b', "6", 9, 20);
        losing('b', "9", 2, 20);
        losing('b', "9", 1, 19);
        losing('b', "9", 3, 20);
        losing('f', "4", 9, 18);
        losing('f', "5", 9, 20);
        losing('f', "6", 9, 20);
        losing('f', "9", 0, 19);
        losing('f', "90", 0, 19, 20);
        losing('f', "99", 9, 20, 20);
        losing('l', "999999999999", 9, 10, 11, 12, 13, 14, 15, 16, 17, 18, 19, 20, 20);
        losing('s', "99", 9, 9, 9);
        sentence("2: The winner has one of WINS more, GRIEVANCE 1 less (0 at least)");
        LoserPicks x = of("cp2,s0;0-;" + row("015", 12) + ";0");
        int[] grievance = {2, 1, 0, 0, 0};
        for (int k = 0; k < 5; k++) {
            due(x.party(0, 1), grievance[k]);
            due(x.party(0, 2), k);
            due(x.party(1, 2), 0);
            due(x.hear(0), 0);
        }
        for (int k = 4; k >= 0; k--) {
            due(x.undo(), k);
            due(x.party(0, 1), grievance[k]);
            due(x.party(0, 2), k);
        }
        // from 20 it is 19
        x = of("cb9,s0;0-;019,019;0");
        x.hear(1);
        due(x.party(0, 1), 20);
        x.hear(2);
        due(x.party(0, 1), 19);
    }

    private static void hearings() {
        sentence("2: if a PARTY THROWS it, the other one wins, be it found for whom it may");
        for (int lean = 4; lean <= 6; lean++) {
            int[] won = {lean <= 5 ? 0 : 1, 1, 0};
            for (int throwing = 0; throwing <= 2; throwing++) {
                LoserPicks x = of("cl0,l0;" + lean + "-,0-;015;0");
                due(x.hear(throwing), won[throwing]);
                due(x.trial(0, 3), won[throwing]);
                due(x.party(won[throwing], 2), 1);
                due(x.party(1 - won[throwing], 1), 1);
            }
        }
        sentence("2: the loser NAMES who sits then; the CASE behind it is next");
        LoserPicks x = of("cl0,s0;5-,5-,5-;" + row("014", 4) + ";1");
        along(0, k -> x.hear(0) * 100 + x.count(3) * 10 + x.count(4), 112, 120, 131, 142);
        due(x.hear(0), NOT);
        LoserPicks y = of("cl0,s0;5-,5-,5-;" + row("015", 4) + ";1");
        along(0, k -> y.hear(0) * 100 + y.count(3) * 10 + y.count(4), 11, 21, 31, 41);
        sentence("2: two CASES change about (all of them but their numbers)");
        LoserPicks z = of("cp0,b0,s0;5-;016,127,208;0");
        due(z.swap(0, 2), 0);
        int[][] rows = {{2, 0, 8, NONE}, {1, 2, 7, NONE}, {0, 1, 6, NONE}};
        for (int at = 0; at < 3; at++) {
            for (int what = 0; what < 4; what++) {
                due(z.trial(at, what), rows[at][what]);
            }
        }
        due(z.hear(0), 2);
    }

    /** One act of each kind upon ALL behind one hearing. */
    private static void oneAct(LoserPicks x, int kind) {
        switch (kind) {
            case 0: due(x.hear(1), 2); break;
            case 1: due(x.swap(2, 6), 1); break;
            case 2: due(x.soothe(4), 6); break;
            case 3: due(x.seat(3), 2); break;
            default: due(x.lean(1, 9), 7); break;
        }
    }

    private static String shape(LoserPicks x) {
        StringBuilder all = new StringBuilder();
        for (int what = 0; what < 7; what++) {
            all.append(x.count(what)).append(' ');
        }
        for (int p = 0; p < 5; p++) {
            all.append(x.party(p, 1)).append(' ').append(x.party(p, 2)).append(' ');
        }
        for (int at = 0; at < 7; at++) {
            all.append(x.trial(at, 0)).append(x.trial(at, 1)).append(x.trial(at, 2)).append(x.trial(at, 3)).append(' ');
        }
        for (int j = 0; j < 4; j++) {
            all.append(x.judge(j, 0)).append(x.judge(j, 2)).append(' ');
        }
        return all.toString();
    }

    private static void same(String got, String want) {
        due(got.equals(want) ? 1 : 0, 1);
    }

    private static void actsThatCanBeUndone() {
        sentence("2: the latest 24 can be undone, the latest first");
        for (int kind = 0; kind < 5; kind++) {
            for (int more = 22; more <= 26; more++) {
                LoserPicks x = of(ALL);
                x.hear(0);
                String first = shape(x);
                oneAct(x, kind);
                String second = shape(x);
                for (int k = 0; k < more; k++) {
                    due(x.lean(0, k % 2 == 0 ? 8 : 4), k % 2 == 0 ? 4 : 8);
                    due(x.count(7), Math.min(k + 3, 24));
                }
                for (int k = more - 1; k >= 0 && k >= more - 24; k--) {
                    due(x.undo(), Math.min(23 - (more - 1 - k), k + 2));
                    due(x.judge(0, 0), k % 2 == 0 ? 4 : 8);
                }
                if (more != 25) {
                    same(shape(x), second);
                }
                due(x.undo(), more < 23 ? 1 : more == 23 ? 0 : NONE);
                if (more < 24) {
                    same(shape(x), first);
                }
                due(x.undo(), more < 23 ? 0 : NONE);
            }
        }
        sentence("2: what was undone makes room for other ACTS");
        LoserPicks x = of(ALL);
        for (int k = 0; k < 30; k++) {
            x.seat(k % 2 == 0 ? 0 : 1);
        }
        for (int k = 23; k >= 14; k--) {
            due(x.undo(), k);
        }
        for (int k = 0; k < 12; k++) {
            x.seat(k % 2 == 0 ? 2 : 3);
            due(x.count(7), Math.min(15 + k, 24));
        }
        for (int k = 23; k >= 0; k--) {
            due(x.undo(), k);
        }
        due(x.undo(), NONE);
        due(x.count(4), 1);
        due(x.count(7), 0);
        sentence("2: a PARTY is SOOTHED (GRIEVANCE 3 less, 0 at least)");
        for (int g = 0; g <= 9; g++) {
            LoserPicks y = of("cp" + g + ",p9;5-;015;0");
            due(y.soothe(0), g == 0 ? NOT : Math.max(g - 3, 0));
            due(y.party(0, 1), Math.max(g - 3, 0));
            due(y.undo(), g == 0 ? NONE : 0);
            due(y.party(0, 1), g);
        }
    }

    // ---- 4 sheets

    private static void sheets() {
        sentence("4: SHEETS 0 .. 3: nothing (at first)");
        LoserPicks x = new LoserPicks();
        along(-1, x::drop, BAD, NULL, NULL, NULL, NULL, BAD);
        sentence("4: a row of a LANE: 0 bytes, 1 shorts, 2 ints, 3 longs");
        for (int lane = 0; lane < 4; lane++) {
            int held = lane;
            due(x.sheet(2, lane, 1), 1);
            along(-1, k -> x.item(2, k, 0, 1), BAD, held == 0 ? 1 : CAST, held == 1 ? 1 : CAST, held == 2 ? 1 : CAST,
                held == 3 ? 1 : CAST, BAD);
        }
        sentence("4: of 0 to 24 items");
        for (int lane = 0; lane < 4; lane++) {
            int of = lane;
            along(-2, n -> x.sheet(0, of, n), SIZE, SIZE, 0, 1, 2);
            along(22, n -> x.sheet(0, of, n), 22, 23, 24, BAD, BAD);
            due(x.drop(0), 24);
            due(x.sheet(0, of, 0), 0);
            due(x.item(0, of, 0, 1), INDEX);
            due(x.drop(0), 0);
            due(x.sheet(0, of, 24), 24);
            due(x.item(0, of, 23, 1), 1);
            due(x.item(0, of, 24, 1), INDEX);
        }
    }

    private static void lowestBits() {
        sentence("4: becomes v, its lowest bits, by LANES");
        LoserPicks x = new LoserPicks();
        for (int lane = 0; lane < 4; lane++) {
            x.sheet(lane, lane, 1);
        }
        for (int lane = 0; lane < 4; lane++) {
            int bits = 8 << lane;
            long top = lane == 3 ? Long.MAX_VALUE : (1L << bits - 1) - 1;
            due(x.item(lane, lane, 0, 0), 0);
            due(x.item(lane, lane, 0, -1), -1);
            due(x.item(lane, lane, 0, top - 1), top - 1);
            due(x.item(lane, lane, 0, top), top);
            due(x.item(lane, lane, 0, top + 1), -top - 1);
            due(x.item(lane, lane, 0, top + 2), -top);
            due(x.item(lane, lane, 0, -top - 1), -top - 1);
            due(x.item(lane, lane, 0, -top - 2), top);
            due(x.item(lane, lane, 0, 2 * top + 1), -1);
            due(x.item(lane, lane, 0, 2 * top + 2), 0);
            due(x.item(lane, lane, 0, 2 * top + 3), 1);
        }
        // what is held is what was told, not v: 256 + 5 is case 5 in a row of bytes, and none in one of shorts
        lay(x, 0, 0, 256 + 5, 256);
        lay(x, 1, 1, 65536 + 6, 256 + 5);
        lay(x, 2, 2, (1L << 32) + 7, 65536 + 6);
        due(seen(x, 0, 0, 0), 5);
        due(seen(x, 0, 0, 1), 0);
        due(seen(x, 1, 1, 0), 6);
        due(seen(x, 1, 1, 1), NOT);
        due(seen(x, 2, 2, 0), 7);
        due(seen(x, 2, 2, 1), NOT);
        lay(x, 0, 3, 9, (1L << 32) + 7);
        due(seen(x, 0, 3, 0), 9);
        due(seen(x, 0, 3, 1), NOT);
    }

    public static void main(String[] args) {
        tapeLength();
        faultPlaces();
        howManyOfEach();
        figures();
        inPlaceOfTheOneBefore();
        findings();
        namings();
        hurts();
        grievanceBounds();
        hearings();
        actsThatCanBeUndone();
        sheets();
        lowestBits();
        finish("terms");
    }
}
