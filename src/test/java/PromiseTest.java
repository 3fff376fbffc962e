/** Each promise of the document by itself: ordinary calls, the edges that it names, and wrong ones. */
public final class PromiseTest {
    private static final int BAD = -1, NOT = -2, FULL = -3, NONE = -4, NULL = -11, CAST = -12, INDEX = -13, SIZE = -14;
    private static final int MIN = Integer.MIN_VALUE, MAX = Integer.MAX_VALUE;
    /** Parties of all kinds; sits 1, then, nobody throwing, 2 2 3 0 3 1 3; won by 1 1 2 4 0 0 2. */
    private static final String ALL = "cp3,b0,s5,l1,f9;4-,72,00,91;014,123,235,340,018,405,217;1";
    /** Case k has weight k, and its judge favours nobody, so that leans by (k, 0) are 0 to k. */
    private static final String SCALE = "cp0,p0;5-;010,011,012,013,014,015,016,017,018,019;0";
    private static int wrong = 0;
    private static int promise = 0;
    private static int row = 0;

    private static void begin(int number) {
        promise = number;
        row = 0;
    }

    private static void due(long got, long want) {
        row++;
        if (got != want) {
            wrong++;
            System.out.println("promise " + promise + ", row " + row + ": answered " + got + ", due is " + want
                + " at " + new Throwable().getStackTrace()[1]);
        }
    }

    private static int read(LoserPicks x, String text) {
        for (int i = 0; i < text.length(); i++) {
            x.feed(text.charAt(i));
        }
        return x.circuit();
    }

    private static LoserPicks of(String text) {
        LoserPicks x = new LoserPicks();
        if (read(x, text) < 1) {
            wrong++;
            System.out.println("not read: " + text);
        }
        return x;
    }

    private static void hearAll(LoserPicks x, int n) {
        for (int k = 0; k < n; k++) {
            x.hear(0);
        }
    }

    /** What a sheet holds at i, if that is 0 to 9, by way of sheet 3; the circuit is SCALE from then on. */
    private static int seen(LoserPicks x, int sheet, int lane, int i) {
        if (x.count(2) != 10) {
            read(x, SCALE);
        }
        x.sheet(3, lane, 2);
        x.copy(sheet, i, 3, 0, 1);
        int set = x.leans(0, 3, lane, 0, 1, 0);
        return set < 0 ? set : Integer.bitCount(set) - 1;
    }

    private static void p1() {
        begin(1);
        LoserPicks x = new LoserPicks();
        for (int what = 0; what < 9; what++) {
            due(x.count(what), what == 4 ? NONE : 0);
        }
        due(x.party(0, 0), BAD);
        due(x.judge(0, 0), BAD);
        due(x.trial(0, 0), BAD);
        due(x.hear(0), NOT);
        due(x.undo(), NONE);
        due(x.image(0), NOT);
        due(x.restore(0), NOT);
        due(x.restore(1), NOT);
        for (int s = 0; s < 4; s++) {
            due(x.drop(s), NULL);
        }
    }

    private static void p2() {
        begin(2);
        LoserPicks x = new LoserPicks();
        due(x.feed(-1), BAD);
        due(x.feed(256), BAD);
        due(x.feed(MIN), BAD);
        due(x.feed(MAX), BAD);
        due(x.feed(0), 1);
        due(x.feed(255), 2);
        for (int n = 3; n <= 130; n++) {
            due(x.feed(n), n);
        }
        due(x.feed(65), FULL);
        due(x.feed(256), BAD);
        due(x.count(8), 130);
        due(x.circuit(), -100);
        due(x.feed(99), 1);
    }

    private static void p3() {
        begin(3);
        String[] faulty = {"", "x", "C", " c", "c", "c;", "cx", "cP0", "cp", "cpp", "cp0", "cp0;", "cp0p", "cp0,", "cp0,;",
            "cp0,p0", "cp0,p0,;", "cp0,p0,p0,p0,p0,p0,p", "cp0,p0;", "cp0,p0;-", "cp0,p0;0", "cp0,p0;0,", "cp0,p0;02",
            "cp0,p0,p0;03", "cp0,p0;0-0", "cp0,p0;0-,", "cp0,p0;0-,0-,0-,0-,0-,0-,", "cp0,p0;0-;", "cp0,p0;0-;2",
            "cp0,p0;0-;-", "cp0,p0;0-;00", "cp0,p0;0-;11", "cp0,p0;0-;02", "cp0,p0;0-;01", "cp0,p0;0-;01;",
            "cp0,p0;0-;01-", "cp0,p0;0-;015", "cp0,p0;0-;0155", "cp0,p0;0-;015,", "cp0,p0;0-;015,;", "cp0,p0;0-;015;",
            "cp0,p0;0-;015;1", "cp0,p0;0-;015;-", "cp0,p0;0-,0-;015;2", "cp0,p0;0-;015;00", "cp0,p0;0-;015;0;",
            "cp0,p0;0-;015;0 ", "cp0, p0;0-;015;0"};
        int[] places = {0, 0, 0, 0, 1, 1, 1, 1, 2, 2, 3, 3, 3, 4, 4, 6, 7, 18, 7, 7, 8, 8, 8, 11, 9, 10, 24, 10, 10, 10,
            11, 11, 11, 12, 12, 12, 13, 13, 14, 14, 14, 14, 14, 17, 15, 15, 15, 4};
        for (int k = 0; k < faulty.length; k++) {
            LoserPicks y = of(ALL);
            hearAll(y, 2);
            due(read(y, faulty[k]), -100 - places[k]);
            due(y.count(8), 0);
            due(y.count(0), 5);
            due(y.count(3), 2);
            due(y.count(7), 2);
        }
        LoserPicks x = of(ALL);
        hearAll(x, 2);
        String cases = "019,109,019,109,019,109,019,109,019,109,019,109";
        String six = "p9,b9,s9,l9,f9,p9";
        due(read(x, "c" + six + ";95,94,93,92,91,90;" + cases + ",;5"), -100 - (1 + 17 + 1 + 17 + 1 + 47));
        due(read(x, "c" + six + ",;95,94,93,92,91,90;" + cases + ";5"), -100 - 18);
        due(x.undo(), 1);
        due(x.image(0), 1);
        x.sheet(2, 1, 7);
        due(read(x, "c" + six + ";95,94,93,92,91,90;" + cases + ";5"), 12);
        due(x.count(0), 6);
        due(x.count(1), 6);
        due(x.count(3), 0);
        due(x.count(4), 5);
        due(x.count(5), 54);
        due(x.undo(), NONE);
        x.hear(1);
        due(x.party(1, 2), 1);
        due(read(x, "cp1,p2;0-;015;0"), 1);
        due(x.party(1, 2), 0);
        due(x.party(2, 1), BAD);
        due(x.trial(0, 3), NONE);
        due(x.drop(2), 7);
        due(x.restore(0), 1);
        due(x.count(0), 5);
    }

    private static void p4() {
        begin(4);
        LoserPicks x = of(ALL);
        int[] grievance = {3, 0, 5, 1, 9};
        int[] named = {2, 3, 1, 2, 3};
        for (int p = 0; p < 5; p++) {
            due(x.party(p, 0), p + 1);
            due(x.party(p, 1), grievance[p]);
            due(x.party(p, 2), 0);
            due(x.party(p, 3), named[p]);
        }
        x.hear(0);
        due(x.party(0, 1), 7);
        due(x.party(1, 2), 1);
        due(x.party(0, 3), 0);
        due(x.party(3, 3), 3);
        due(x.party(-1, 0), BAD);
        due(x.party(5, 0), BAD);
        due(x.party(0, -1), BAD);
        due(x.party(0, 4), BAD);
        due(x.party(MAX, MIN), BAD);
    }

    private static void p5() {
        begin(5);
        LoserPicks x = of(ALL);
        int[][] is = {{1, 1, 0, 0, 0, 0}, {1, 1, 1, 0, 0, 0}, {1, 1, 0, 1, 0, 0}, {1, 0, 0, 0, 1, 0}, {1, 1, 1, 0, 0, 1}};
        for (int p = 0; p < 5; p++) {
            for (int kind = 0; kind < 6; kind++) {
                due(x.as(p, kind), is[p][kind] == 1 ? p : CAST);
            }
        }
        due(x.as(5, 0), BAD);
        due(x.as(-1, 0), BAD);
        due(x.as(0, 6), BAD);
        due(x.as(0, -1), BAD);
    }

    private static void p6() {
        begin(6);
        LoserPicks x = of(ALL);
        int[] lean = {4, 7, 0, 9};
        int[] favours = {NONE, 2, 0, 1};
        for (int j = 0; j < 4; j++) {
            due(x.judge(j, 0), lean[j]);
            due(x.judge(j, 1), favours[j]);
            due(x.judge(j, 2), j == 1 ? 1 : 0);
        }
        due(x.judge(4, 0), BAD);
        due(x.judge(-1, 0), BAD);
        due(x.judge(0, 3), BAD);
        due(x.judge(0, -1), BAD);
    }

    private static void p7() {
        begin(7);
        LoserPicks x = of(ALL);
        due(x.trial(5, 0), 4);
        due(x.trial(5, 1), 0);
        due(x.trial(5, 2), 5);
        due(x.trial(6, 2), 7);
        hearAll(x, 7);
        int[] won = {1, 1, 2, 4, 0, 0, 2};
        for (int at = 0; at < 7; at++) {
            due(x.trial(at, 3), won[at]);
        }
        x.undo();
        due(x.trial(6, 3), NONE);
        due(x.trial(5, 3), 0);
        due(x.trial(7, 0), BAD);
        due(x.trial(-1, 0), BAD);
        due(x.trial(0, 4), BAD);
        due(x.trial(0, -1), BAD);
    }

    private static void p8() {
        begin(8);
        // as much as the lean, by favour up and down, and one less than it
        LoserPicks x = of("cp0,p0,p0;5-,50,51,52,7-,70;015,014,013,016,017;0");
        int[][] won = {{0, 1, 1, 0, 0}, {0, 0, 0, 0, 0}, {1, 1, 1, 1, 0}, {0, 1, 1, 0, 0}, {1, 1, 1, 1, 0}, {0, 1, 1, 0, 0}};
        for (int j = 0; j < 6; j++) {
            for (int at = 0; at < 5; at++) {
                due(x.finds(j, at), won[j][at]);
            }
        }
        due(x.lean(0, 0), 5);
        due(x.finds(0, 2), 0);
        due(x.finds(6, 0), BAD);
        due(x.finds(-1, 0), BAD);
        due(x.finds(0, 5), BAD);
        due(x.finds(0, -1), BAD);
    }

    private static void p9() {
        begin(9);
        // two of the least lean, two of the greatest, one who favours the feared one
        LoserPicks x = of("cp0,b0,s0,l0,f0;60,14,9-,11,9-,44;015;0");
        int[][] named = {{1, 3, 1, 1, 1, 1}, {2, 2, 4, 2, 2, 2}, {0, 1, 2, 3, 4, 5}, {1, 2, 3, 4, 5, 0}, {2, 2, 4, 2, 2, 2}};
        for (int p = 0; p < 5; p++) {
            for (int j = 0; j < 6; j++) {
                due(x.names(p, j), named[p][j]);
            }
        }
        x.lean(5, 5);
        due(x.names(4, 0), 5);
        due(x.names(4, 5), 2);
        x.lean(5, 3);
        due(x.names(4, 0), 2);
        x = of("cp0,b0,s0,l0,f0;34;015;0");
        for (int p = 0; p < 5; p++) {
            due(x.names(p, 0), 0);
        }
        // 4 and 5 more is as much as 9, and the first of like ones counts
        x = of("cf0,p0;1-,40,9-,9-;015;0");
        due(x.names(0, 0), 1);
        due(x.names(0, 1), 2);
        due(x.names(0, 4), BAD);
        due(x.names(0, -1), BAD);
        due(x.names(2, 0), BAD);
        due(x.names(-1, 0), BAD);
    }

    private static void p10() {
        begin(10);
        LoserPicks x = of(ALL);
        due(x.hear(-1), BAD);
        due(x.hear(3), BAD);
        int[] won = {1, 1, 2, 4, 0, 0, 2};
        int[] sits = {2, 2, 3, 0, 3, 1, 3};
        for (int at = 0; at < 7; at++) {
            due(x.hear(0), won[at]);
            due(x.count(4), sits[at]);
            due(x.count(3), at + 1);
        }
        int[] grievance = {5, 20, 3, 3, 19};
        int[] wins = {2, 2, 2, 0, 1};
        for (int p = 0; p < 5; p++) {
            due(x.party(p, 1), grievance[p]);
            due(x.party(p, 2), wins[p]);
        }
        due(x.hear(0), NOT);
        due(x.hear(3), BAD);
        due(x.count(7), 7);
        x = of(ALL);
        due(x.hear(2), 0);
        due(x.party(0, 1), 2);
        due(x.party(1, 1), 8);
        due(x.count(4), 3);
        due(x.hear(1), 2);
        due(x.party(1, 1), 14);
        due(x.count(4), 1);
        // weight 0 hurts a feared one by 1, a laugher by 1, others not at all
        x = of("cp0,b0,s0,l0,f0;0-;040,140,240,340,300,310,320;0");
        for (int at = 0; at < 4; at++) {
            due(x.hear(0), at);
        }
        due(x.party(4, 1), 4);
        for (int at = 4; at < 7; at++) {
            due(x.hear(0), 3);
            due(x.party(at - 4, 1), 0);
        }
        x.hear(0);
        due(x.party(3, 1), 0);
    }

    private static void p11() {
        begin(11);
        LoserPicks x = of(ALL);
        due(x.swap(0, 7), BAD);
        due(x.swap(7, 0), BAD);
        due(x.swap(-1, 0), BAD);
        due(x.swap(7, 7), BAD);
        due(x.swap(6, 6), NOT);
        due(x.swap(0, 6), 0);
        due(x.trial(0, 0), 2);
        due(x.trial(0, 1), 1);
        due(x.trial(0, 2), 7);
        due(x.trial(6, 0), 0);
        due(x.trial(6, 2), 4);
        due(x.hear(0), 2);
        due(x.swap(0, 1), NOT);
        due(x.swap(1, 0), NOT);
        due(x.swap(5, 1), 1);
        due(x.count(7), 3);
        due(x.trial(5, 2), 3);
        due(x.undo(), 2);
        due(x.trial(5, 2), 5);
        due(x.trial(0, 3), 2);
    }

    private static void p12() {
        begin(12);
        LoserPicks x = of(ALL);
        due(x.soothe(5), BAD);
        due(x.soothe(-1), BAD);
        due(x.soothe(1), NOT);
        due(x.soothe(0), 0);
        due(x.soothe(0), NOT);
        due(x.soothe(2), 2);
        due(x.soothe(2), 0);
        due(x.soothe(4), 6);
        due(x.count(5), 7);
        due(x.count(7), 4);
        due(x.undo(), 3);
        due(x.undo(), 2);
        due(x.party(2, 1), 2);
        due(x.party(4, 1), 9);
    }

    private static void p13() {
        begin(13);
        LoserPicks x = of(ALL);
        due(x.seat(4), BAD);
        due(x.seat(-1), BAD);
        due(x.seat(1), NOT);
        due(x.seat(3), 1);
        due(x.seat(0), 3);
        due(x.count(4), 0);
        due(x.judge(0, 2), 1);
        due(x.judge(3, 2), 0);
        due(x.count(3), 0);
        due(x.undo(), 1);
        due(x.count(4), 3);
    }

    private static void p14() {
        begin(14);
        LoserPicks x = of(ALL);
        due(x.lean(4, 0), BAD);
        due(x.lean(-1, 0), BAD);
        due(x.lean(0, 10), BAD);
        due(x.lean(0, -1), BAD);
        due(x.lean(0, 4), NOT);
        due(x.lean(0, 9), 4);
        due(x.lean(0, 0), 9);
        due(x.judge(0, 0), 0);
        due(x.undo(), 1);
        due(x.judge(0, 0), 9);
        due(x.undo(), 0);
        due(x.judge(0, 0), 4);
    }

    private static void p15() {
        begin(15);
        LoserPicks x = of(ALL);
        due(x.undo(), NONE);
        due(x.soothe(0), 0);
        due(x.hear(0), 1);
        due(x.swap(1, 4), 1);
        due(x.hear(1), 1);
        due(x.lean(3, 2), 9);
        due(x.seat(1), 0);
        due(x.undo(), 5);
        due(x.count(4), 0);
        due(x.undo(), 4);
        due(x.judge(3, 0), 9);
        due(x.undo(), 3);
        due(x.trial(1, 3), NONE);
        due(x.party(1, 2), 1);
        due(x.party(0, 1), 4);
        due(x.count(4), 2);
        due(x.count(3), 1);
        due(x.undo(), 2);
        due(x.trial(1, 2), 3);
        due(x.undo(), 1);
        due(x.party(0, 1), 0);
        due(x.party(1, 2), 0);
        due(x.count(4), 1);
        due(x.undo(), 0);
        due(x.party(0, 1), 3);
        due(x.undo(), NONE);
        // of 25 acts the first one can't be undone any more
        due(x.soothe(2), 2);
        for (int k = 0; k < 24; k++) {
            due(x.lean(0, 5 + k % 2), 4 + (k == 0 ? 0 : 2 - k % 2));
        }
        due(x.count(7), 24);
        for (int k = 23; k >= 0; k--) {
            due(x.undo(), k);
        }
        due(x.undo(), NONE);
        due(x.judge(0, 0), 4);
        due(x.party(2, 1), 2);
    }

    private static void p16and17() {
        begin(16);
        LoserPicks x = new LoserPicks();
        due(x.image(-1), BAD);
        due(x.image(2), BAD);
        due(x.image(1), NOT);
        read(x, ALL);
        hearAll(x, 3);
        due(x.image(1), 3);
        due(x.count(7), 3);
        due(x.undo(), 2);
        due(x.image(0), 2);
        begin(17);
        due(x.restore(-1), BAD);
        due(x.restore(2), BAD);
        due(new LoserPicks().restore(1), NOT);
        x.lean(0, 0);
        x.seat(0);
        x.swap(3, 4);
        x.soothe(2);
        x.feed(99);
        due(x.restore(1), 3);
        due(x.count(8), 1);
        due(x.undo(), NONE);
        due(x.count(7), 0);
        due(x.judge(0, 0), 4);
        due(x.count(4), 3);
        due(x.trial(3, 2), 0);
        due(x.trial(2, 3), 2);
        due(x.party(2, 1), 4);
        due(x.party(2, 2), 1);
        due(x.hear(0), 4);
        due(x.restore(0), 2);
        due(x.trial(2, 3), NONE);
        due(x.hear(0), 2);
        due(x.restore(1), 3);
        x = of(ALL);
        x.image(0);
        hearAll(x, 7);
        due(x.restore(0), 0);
        due(x.party(1, 2), 0);
        read(x, SCALE);
        due(x.count(2), 10);
        due(x.restore(0), 0);
        due(x.count(2), 7);
    }

    private static void p18() {
        begin(18);
        LoserPicks x = new LoserPicks();
        due(x.ahead(-1, 0), BAD);
        due(x.ahead(0, 0), NOT);
        due(x.ahead(1, 0), NOT);
        read(x, ALL);
        int[] won = {NONE, 1, 1, 2, 4, 0, 0, 2};
        int[] sits = {1, 2, 2, 3, 0, 3, 1, 3};
        for (int n = 0; n <= 7; n++) {
            due(x.ahead(n, 0), won[n]);
            due(x.ahead(n, 1), sits[n]);
        }
        due(x.count(3), 0);
        due(x.count(5), 18);
        due(x.ahead(8, 0), NONE);
        due(x.ahead(12, 1), NONE);
        due(x.ahead(13, 1), BAD);
        due(x.ahead(-1, 1), BAD);
        due(x.ahead(0, 2), BAD);
        due(x.ahead(0, -1), BAD);
        hearAll(x, 5);
        due(x.ahead(2, 0), 2);
        due(x.ahead(3, 0), NONE);
        due(x.ahead(1, 1), 1);
    }

    private static void p19() {
        begin(19);
        LoserPicks x = of(ALL);
        due(x.throwing(5, 0), BAD);
        due(x.throwing(-1, 0), BAD);
        due(x.throwing(0, 7), BAD);
        due(x.throwing(0, -1), BAD);
        due(x.throwing(0, 1), NOT);
        due(x.throwing(0, 0), NONE);
        due(x.throwing(1, 4), 1);
        due(x.throwing(1, 6), 17);
        hearAll(x, 1);
        due(x.throwing(1, 0), NOT);
        due(x.count(3), 1);
        // to lose case 2 brings the brute to case 3, unless he sat already: that takes case 0, too
        x = of("cb0,p0;5-,9-,0-;015,105,019,108;0");
        due(x.ahead(4, 0), 1);
        due(x.throwing(0, 3), 5);
        due(x.throwing(0, 0), 0);
        // a laugher must lose twice for the third judge to come, and may choose which two: the first two
        x = of("cl0,s0;0-,0-,9-;109,109,105;0");
        due(x.throwing(0, 2), 0);
        x = of("cl0,s0;0-,0-,9-;019,019,019,105;0");
        due(x.throwing(0, 3), 3);
        x.hear(0);
        due(x.throwing(0, 3), 6);
        x.hear(0);
        due(x.throwing(0, 3), NONE);
    }

    private static void p20() {
        begin(20);
        LoserPicks x = of(ALL);
        due(x.worth(-1), BAD);
        due(x.worth(5), BAD);
        due(x.worth(0), 2);
        due(x.worth(3), 0);
        hearAll(x, 7);
        due(x.worth(0), 0);
        // nobody throwing 0 wins the first one only; throwing that it wins the three behind it
        x = of("cp0,l0;6-,7-,2-;017,012,105,106;0");
        due(x.worth(0), 3);
        x.hear(0);
        due(x.worth(0), 0);
        due(x.worth(1), 3);
        due(x.party(0, 2), 1);
        due(x.count(3), 1);
    }

    private static void p21() {
        begin(21);
        LoserPicks x = of(ALL);
        due(x.duel(0, 0, 1), BAD);
        due(x.duel(0, 5, 1), BAD);
        due(x.duel(-1, 0, 1), BAD);
        due(x.duel(0, 1, -1), BAD);
        due(x.duel(0, 1, 9), BAD);
        due(x.duel(0, 1, 0), 100);
        due(x.duel(0, 1, 1), 99);
        due(x.duel(1, 0, 1), 101);
        // a loses one of the four, be it the first one, thrown, or the second, and wins the others
        x = of("cb0,s0;5-,9-;015,106,107,108;0");
        due(x.duel(0, 1, 1), 101);
        due(x.duel(0, 1, 2), 100);
        due(x.duel(0, 1, 4), 102);
        due(x.duel(0, 1, 8), 102);
        due(x.duel(1, 0, 4), 98);
        x = of("cs0,b0;9-,0-;014,010,010;0");
        due(x.duel(1, 0, 3), 103);
        due(x.duel(0, 1, 3), 97);
        hearAll(x, 3);
        due(x.duel(1, 0, 3), 100);
        // 1 would win the first one and 0 both others; thrown, it brings the judge who finds against 0
        x = of("cs0,l0,s0;0-,9-;125,025,025;0");
        due(x.duel(0, 1, 1), 99);
        due(x.duel(0, 1, 3), 100);
        due(x.duel(1, 0, 3), 100);
        due(x.duel(1, 2, 3), 101);
        due(x.duel(0, 2, 3), 102);
        // 0 throws the first one and wins the three behind it, whatever 1 does
        x = of("cp0,l0;6-,7-,2-;017,012,105,106;0");
        due(x.duel(0, 1, 4), 102);
    }

    private static void p22() {
        begin(22);
        LoserPicks x = new LoserPicks();
        due(x.order(7, 0), BAD);
        due(x.order(0, -2), BAD);
        due(x.order(1, 0), NOT);
        read(x, "cs0,s9,l0,l9,p5,b5;2-,53,8-,1-,90,45;015,125,236,343,454,503,051,142,307,519,246,130;0");
        int[] best = {0, 1, 4, 2};
        due(x.order(6, -1), 6);
        for (int k = 0; k < 4; k++) {
            due(x.order(6, k), best[k]);
        }
        due(x.order(6, 6), NONE);
        due(x.order(6, MAX), NONE);
        due(x.order(0, -1), 0);
        due(x.order(0, 0), NONE);
        due(x.order(-1, 0), BAD);
        due(x.order(7, 0), BAD);
        due(x.order(1, -2), BAD);
        due(x.order(1, MIN), BAD);
        // the hard judge errs on 5, the mild one on 4: the laugher that loses 1 must lose it first
        x = of("cl0,l0;9-,0-;015,014;0");
        due(x.order(1, -1), 0);
        due(x.order(2, -1), 2);
        due(x.order(2, 0), 1);
        due(x.order(2, 1), 0);
        due(x.order(3, -1), NONE);
        x.hear(0);
        due(x.order(1, -1), 0);
        due(x.order(1, 0), 1);
        due(x.order(2, 0), NONE);
        due(x.trial(0, 2), 5);
    }

    private static void p23() {
        begin(23);
        LoserPicks x = of("cb9,f9;9-;019;0");
        due(x.round(0, 0), 9);
        due(x.round(0, 1), 1);
        due(x.round(0, 2), BAD);
        due(x.round(0, -1), BAD);
        due(x.round(1, 0), BAD);
        due(x.round(-1, 0), BAD);
        x.hear(0);
        due(x.round(0, 0), 8);
        // laughers before judges by turns: 0 wins, 1 wins, one up and one down, round by two
        x = of("cl5,l5;0-,9-;015;0");
        due(x.round(0, 0), 0);
        due(x.round(0, 1), 2);
        due(x.count(5), 10);
        x = of("cl0,l0;0-,9-,9-;015;0");
        due(x.round(0, 1), 3);
        // before judge 0 grievance is 0 0, 2 0, 3 0, 4 0 .. 20 0, and that again: 19 times three hearings
        due(x.round(0, 0), 57);
        due(x.party(0, 1), 0);
    }

    private static void p24() {
        begin(24);
        LoserPicks x = of("cs0,s9,l0,l9,p5,b5;2-,53,8-,1-,90,45;015,125;0");
        int[] judges = {3, 1, 0, 2, 5, 4};
        for (int p = 0; p < 6; p++) {
            due(x.bench(p), judges[p]);
        }
        due(x.bench(6), BAD);
        due(x.bench(-1), BAD);
        // of like grievance the first; who comes too late has none
        x = of("cp3,p3,p2;4-,4-;015;0");
        due(x.bench(2), 0);
        due(x.bench(0), 1);
        due(x.bench(1), NONE);
        x.soothe(1);
        due(x.bench(1), 0);
        due(x.bench(2), 1);
        due(x.bench(0), NONE);
        // a feared one likes him best who favours it, a bitter one the greatest lean
        x = of("cf0,b1;1-,40,8-;015;0");
        due(x.bench(0), 1);
        due(x.bench(1), 2);
        x.lean(1, 2);
        due(x.bench(0), 2);
        due(x.bench(1), 1);
    }

    private static void p25() {
        begin(25);
        LoserPicks x = of("cl0,l0,p0;5-,9-;015,105,017,108,019,105;0");
        due(x.errors(0, 1, 0, 0), 1);
        due(x.errors(0, 1, 0, 1), 1);
        due(x.errors(1, 1, 0, 0), 0);
        due(x.errors(1, 1, 0, 1), 1);
        due(x.errors(0, 1, 3, 0), 7);
        due(x.errors(0, 1, 3, 1), 10);
        due(x.errors(1, 1, 5, 0), 1);
        due(x.errors(1, 1, 5, 1), 2);
        due(x.errors(0, 1, 10, 0), 0);
        due(x.errors(1, 1, 10, 0), 1);
        // laughers name the other judge, whoever loses: 9 sits on the second case and finds for 0
        due(x.errors(0, 2, 4, 0), 3);
        due(x.errors(0, 2, 4, 1), 5);
        due(x.errors(2, 6, 4, 0), 0);
        due(x.errors(2, 6, 4, 1), 1);
        due(x.errors(0, 6, 1, 0), 9);
        due(x.errors(0, 6, 1, 1), 10);
        due(x.errors(0, 0, 1, 0), BAD);
        due(x.errors(0, 7, 1, 0), BAD);
        due(x.errors(0, 1, -1, 0), BAD);
        due(x.errors(0, 1, 11, 0), BAD);
        due(x.errors(0, 1, 1, 2), BAD);
        due(x.errors(0, 1, 1, -1), BAD);
        due(x.errors(3, 1, 1, 0), BAD);
        due(x.errors(-1, 1, 1, 0), BAD);
        x.hear(0);
        due(x.errors(0, 6, 1, 0), NONE);
        // a plain loser fetches the mild judge, a saint leaves the brute: 9 of 10 and 1 of 10 ways on
        x = of("cp0,s0;9-,0-;015,015;0");
        due(x.errors(0, 2, 1, 0), 41);
        due(x.errors(0, 2, 1, 1), 50);
    }

    private static void p26() {
        begin(26);
        LoserPicks x = new LoserPicks();
        due(x.decades(61, 1, 0), BAD);
        due(x.decades(1, 1, 0), NOT);
        read(x, "cl0,l0;9-,0-;015,015;0");
        due(x.decades(-1, 1, 0), BAD);
        due(x.decades(61, 1, 0), BAD);
        due(x.decades(1, 0, 0), BAD);
        due(x.decades(1, 1000000, 0), BAD);
        due(x.decades(1, 1, 2), BAD);
        due(x.decades(1, 1, -1), BAD);
        due(x.decades(0, 1, 0), 0);
        due(x.decades(0, 999999, 1), 0);
        // 16807 by 8 is 2100, which leaves 0: the plaintiff throws; 33614: 4201 leaves 1; 50421: 6302 leaves 2
        due(x.decades(1, 1, 0), 1);
        due(x.decades(1, 1, 1), 1);
        x = of("cs0,b0;9-,0-;015,015;1");
        due(x.decades(1, 1, 0), 0);
        due(x.decades(1, 1, 1), 1);
        x.seat(0);
        due(x.decades(1, 1, 0), 0);
        due(x.decades(1, 2, 0), 10);
        due(x.decades(1, 2, 1), 1);
        due(x.decades(1, 3, 0), 0);
        due(x.decades(1, 3, 1), 0);
        // 282475249: 35309406 leaves 1; 1622650073: 202831259 leaves 4
        due(x.decades(2, 1, 0), 10);
        due(x.decades(2, 1, 1), 1);
        due(x.decades(3, 1, 0), 20);
        due(x.decades(3, 1, 1), 0);
        hearAll(x, 2);
        due(x.decades(1, 2, 0), 10);
        due(x.count(3), 2);
        due(x.count(5), 0);
    }

    private static void p27and28() {
        begin(27);
        LoserPicks x = new LoserPicks();
        due(x.sheet(4, 0, 1), BAD);
        due(x.sheet(-1, 0, 1), BAD);
        due(x.sheet(0, 4, 1), BAD);
        due(x.sheet(0, -1, 1), BAD);
        due(x.sheet(0, 0, 25), BAD);
        due(x.sheet(0, 0, MAX), BAD);
        due(x.sheet(0, 0, -1), SIZE);
        due(x.sheet(0, 0, MIN), SIZE);
        due(x.sheet(0, 4, -1), BAD);
        due(x.drop(0), NULL);
        for (int lane = 0; lane < 4; lane++) {
            due(x.sheet(lane, lane, 24 - lane), 24 - lane);
            due(x.item(lane, lane, 23 - lane, 7), 7);
        }
        due(x.sheet(0, 0, -1), SIZE);
        due(x.sheet(1, 2, 24), 24);
        due(x.item(1, 1, 0, 1), CAST);
        due(seen(x, 1, 2, 22), 0);
        due(seen(x, 0, 0, 23), 7);
        begin(28);
        due(x.drop(-1), BAD);
        due(x.drop(4), BAD);
        due(x.drop(0), 24);
        due(x.drop(0), NULL);
        due(x.sheet(0, 3, 0), 0);
        due(x.drop(0), 0);
        due(x.drop(2), 22);
        due(x.sheet(2, 0, 3), 3);
        due(seen(x, 2, 0, 0), 0);
    }

    private static void p29() {
        begin(29);
        LoserPicks x = new LoserPicks();
        for (int lane = 0; lane < 4; lane++) {
            x.sheet(lane, lane, 2);
        }
        due(x.item(0, 0, 0, 127), 127);
        due(x.item(0, 0, 0, 128), -128);
        due(x.item(0, 0, 0, 511), -1);
        due(x.item(1, 1, 1, 32768), -32768);
        due(x.item(1, 1, 1, 65541), 5);
        due(x.item(2, 2, 1, 1L << 31), MIN);
        due(x.item(2, 2, 1, (1L << 32) + 6), 6);
        due(x.item(3, 3, 0, Long.MIN_VALUE), Long.MIN_VALUE);
        due(x.item(3, 3, 0, Long.MAX_VALUE), Long.MAX_VALUE);
        due(x.item(4, 0, 0, 1), BAD);
        due(x.item(-1, 0, 0, 1), BAD);
        due(x.item(0, 4, 0, 1), BAD);
        due(x.item(0, -1, 0, 1), BAD);
        due(x.item(0, 1, 9, 1), CAST);
        due(x.item(0, 0, 2, 1), INDEX);
        due(x.item(0, 0, -1, 1), INDEX);
        due(x.item(0, 0, MIN, 1), INDEX);
        due(x.item(0, 0, MAX, 1), INDEX);
        x.drop(0);
        due(x.item(0, 1, 9, 1), NULL);
        due(seen(x, 1, 1, 1), 5);
        due(seen(x, 2, 2, 1), 6);
    }

    private static void p30() {
        begin(30);
        LoserPicks x = new LoserPicks();
        x.sheet(0, 2, 6);
        x.sheet(1, 2, 4);
        x.sheet(2, 1, 4);
        for (int i = 0; i < 6; i++) {
            x.item(0, 2, i, i + 1);
        }
        due(x.copy(-1, 0, 0, 0, 1), BAD);
        due(x.copy(0, 0, 4, 0, 1), BAD);
        due(x.copy(3, 0, 0, 0, 1), NULL);
        due(x.copy(0, 0, 3, 0, 1), NULL);
        due(x.copy(0, 9, 2, 0, 1), CAST);
        due(x.copy(0, 0, 1, 0, -1), INDEX);
        due(x.copy(0, 0, 1, 0, 5), INDEX);
        due(x.copy(0, 3, 1, 0, 4), INDEX);
        due(x.copy(0, -1, 1, 0, 1), INDEX);
        due(x.copy(0, 0, 1, -1, 1), INDEX);
        due(x.copy(0, 7, 1, 0, 0), INDEX);
        due(x.copy(0, MAX, 1, 0, 1), INDEX);
        due(x.copy(0, 1, 1, 0, MAX), INDEX);
        due(x.copy(0, MIN, 1, 0, MIN), INDEX);
        due(x.copy(0, 6, 1, 4, 0), 0);
        due(x.copy(0, 2, 1, 1, 2), 2);
        int[] there = {0, 3, 4, 0};
        for (int i = 0; i < 4; i++) {
            due(seen(x, 1, 2, i), there[i]);
        }
        due(x.copy(0, 0, 0, 1, 4), 4);
        int[] up = {1, 1, 2, 3, 4, 6};
        for (int i = 0; i < 6; i++) {
            due(seen(x, 0, 2, i), up[i]);
        }
        due(x.copy(0, 2, 0, 0, 4), 4);
        int[] down = {2, 3, 4, 6, 4, 6};
        for (int i = 0; i < 6; i++) {
            due(seen(x, 0, 2, i), down[i]);
        }
    }

    private static void p31() {
        begin(31);
        LoserPicks x = new LoserPicks();
        x.sheet(0, 1, 9);
        for (int i = 0; i < 9; i++) {
            x.item(0, 1, i, 9);
        }
        due(x.log(0, 1, 0, 1), NOT);
        read(x, ALL);
        due(x.log(4, 1, 0, 1), BAD);
        due(x.log(-1, 1, 0, 1), BAD);
        due(x.log(0, 4, 0, 1), BAD);
        due(x.log(0, 1, 0, 0), BAD);
        due(x.log(0, 1, 0, 13), BAD);
        due(x.log(1, 1, 0, 1), NULL);
        due(x.log(0, 2, 9, 1), CAST);
        due(x.log(0, 1, 3, 7), INDEX);
        due(x.log(0, 1, -1, 1), INDEX);
        due(x.log(0, 1, MAX, 1), INDEX);
        due(x.log(0, 1, 0, 12), INDEX);
        due(x.log(0, 1, 0, 8), NOT);
        hearAll(x, 2);
        due(x.log(0, 1, 0, 6), NOT);
        due(x.log(0, 1, 1, 5), 5);
        due(x.count(3), 2);
        int[] won = {9, 2, 4, 0, 0, 2, 9, 9, 9};
        for (int i = 0; i < 9; i++) {
            due(seen(x, 0, 1, i), won[i]);
        }
    }

    private static void p32() {
        begin(32);
        LoserPicks x = new LoserPicks();
        x.sheet(0, 3, 24);
        due(x.leans(0, 0, 3, 0, 1, 0), BAD);
        read(x, "cp0,p0,l0;30,61,5-,51;015,016,104,023,205,127,219;2");
        due(x.leans(4, 0, 3, 0, 1, 0), BAD);
        due(x.leans(-1, 0, 3, 0, 1, 0), BAD);
        due(x.leans(0, 4, 3, 0, 1, 0), BAD);
        due(x.leans(0, 0, 4, 0, 1, 0), BAD);
        due(x.leans(0, 0, 3, 0, 0, 0), BAD);
        due(x.leans(0, 0, 3, 0, 11, 0), BAD);
        due(x.leans(0, 0, 3, 0, 1, 2), BAD);
        due(x.leans(0, 0, 3, 0, 1, -1), BAD);
        due(x.leans(0, 1, 3, 0, 1, 0), NULL);
        due(x.leans(0, 0, 2, 99, 1, 0), CAST);
        due(x.leans(0, 0, 3, 23, 1, 0), INDEX);
        due(x.leans(0, 0, 3, 5, 10, 0), INDEX);
        due(x.leans(0, 0, 3, -1, 1, 0), INDEX);
        due(x.leans(0, 0, 3, MAX, 1, 0), INDEX);
        // case 0 was for the plaintiff: at most 5, 7 and 3 by favour
        due(x.leans(2, 0, 3, 22, 1, 0), 63);
        due(x.leans(0, 0, 3, 4, 10, 0), 255);
        due(x.leans(1, 0, 3, 0, 1, 0), 15);
        x.item(0, 3, 2, 3);
        x.item(0, 3, 3, 1);
        due(x.leans(2, 0, 3, 0, 2, 0), 48);
        due(x.leans(2, 0, 3, 2, 1, 0), 1008);
        // 4 and 5: case 2, of weight 4, tells them apart; of 4 to 9 case 1, by 3 and 3
        due(x.leans(2, 0, 3, 0, 2, 1), 2);
        due(x.leans(2, 0, 3, 2, 1, 1), 1);
        x.item(0, 3, 1, 1);
        x.item(0, 3, 3, 0);
        due(x.leans(2, 0, 3, 0, 2, 0), 0);
        due(x.leans(2, 0, 3, 0, 2, 1), NONE);
        x.item(0, 3, 0, 6);
        due(x.leans(2, 0, 3, 0, 1, 0), 0);
        long[] noCase = {7, -1, 1L << 32, Long.MIN_VALUE};
        for (long v : noCase) {
            x.item(0, 3, 0, v);
            due(x.leans(2, 0, 3, 0, 1, 0), NOT);
            due(x.leans(2, 0, 3, 2, 1, 0), 15);
        }
        x.item(0, 3, 0, 0);
        long[] noSide = {2, -1, 1L << 32};
        for (long v : noSide) {
            x.item(0, 3, 1, v);
            due(x.leans(2, 0, 3, 0, 1, 1), NOT);
        }
        due(x.judge(2, 0), 5);
    }

    private static void p33() {
        begin(33);
        LoserPicks x = new LoserPicks();
        x.sheet(1, 0, 20);
        due(x.kinds(0, 1, 0, 0, 1, 0), BAD);
        read(x, "cp0,p0,l0;30,61,5-,51;015,016,104,023,205,127,219;2");
        due(x.kinds(3, 1, 0, 0, 1, 0), BAD);
        due(x.kinds(-1, 1, 0, 0, 1, 0), BAD);
        due(x.kinds(0, 4, 0, 0, 1, 0), BAD);
        due(x.kinds(0, 1, -1, 0, 1, 0), BAD);
        due(x.kinds(0, 1, 0, 0, 0, 0), BAD);
        due(x.kinds(0, 1, 0, 0, 11, 0), BAD);
        due(x.kinds(0, 1, 0, 0, 1, 2), BAD);
        due(x.kinds(0, 0, 0, 0, 1, 0), NULL);
        due(x.kinds(0, 1, 1, 99, 1, 0), CAST);
        due(x.kinds(0, 1, 0, 1, 10, 0), INDEX);
        due(x.kinds(0, 1, 0, -2, 1, 0), INDEX);
        // 0 sat and 0 was named: a saint
        due(x.kinds(0, 1, 0, 0, 10, 0), 8);
        x.item(1, 0, 0, 2);
        due(x.kinds(0, 1, 0, 0, 1, 0), 2 + 32);
        due(x.kinds(1, 1, 0, 0, 1, 0), 2);
        due(x.kinds(0, 1, 0, 0, 2, 0), 0);
        due(x.kinds(0, 1, 0, 0, 2, 1), NONE);
        // plain or feared: before 0 a plain one would name 2, a feared one 1
        due(x.kinds(0, 1, 0, 0, 1, 1), 0);
        // bitter or feared: 1 must sit, that 2 or 3 is named
        x.item(1, 0, 1, 1);
        due(x.kinds(1, 1, 0, 0, 1, 0), 4 + 32);
        due(x.kinds(1, 1, 0, 0, 1, 1), 1);
        x.item(1, 0, 1, 3);
        due(x.kinds(1, 1, 0, 0, 1, 0), 16);
        x.item(1, 0, 0, 4);
        due(x.kinds(1, 1, 0, 0, 1, 0), NOT);
        x.item(1, 0, 0, 0);
        x.item(1, 0, 1, 4);
        due(x.kinds(1, 1, 0, 0, 1, 0), NOT);
        x.item(1, 0, 1, -1);
        due(x.kinds(1, 1, 0, 0, 1, 1), NOT);
        // a lone judge is named by all
        read(x, "cp0,b0;3-;015;0");
        due(x.kinds(0, 1, 0, 2, 1, 0), 62);
        due(x.kinds(0, 1, 0, 2, 1, 1), 0);
        due(x.party(0, 0), 1);
    }

    private static void p34() {
        begin(34);
        LoserPicks x = of(ALL);
        due(x.count(-1), BAD);
        due(x.count(9), BAD);
        int[] first = {5, 4, 7, 0, 1, 18, 0, 0, 0};
        for (int what = 0; what < 9; what++) {
            due(x.count(what), first[what]);
        }
        x.feed(99);
        hearAll(x, 7);
        int[] last = {5, 4, 7, 7, 3, 50, 5, 7, 1};
        for (int what = 0; what < 9; what++) {
            due(x.count(what), last[what]);
        }
        // 4 is just for the defendant, 5 for the plaintiff, thrown or not
        x = of("cp0,p0;0-;014,015,014,015;0");
        x.hear(0);
        due(x.count(6), 0);
        x.hear(0);
        due(x.count(6), 1);
        x.hear(1);
        due(x.count(6), 2);
        x.hear(1);
        due(x.count(6), 2);
        x.undo();
        x.undo();
        due(x.count(6), 1);
    }

    public static void main(String[] args) {
        p1();
        p2();
        p3();
        p4();
        p5();
        p6();
        p7();
        p8();
        p9();
        p10();
        p11();
        p12();
        p13();
        p14();
        p15();
        p16and17();
        p18();
        p19();
        p20();
        p21();
        p22();
        p23();
        p24();
        p25();
        p26();
        p27and28();
        p29();
        p30();
        p31();
        p32();
        p33();
        p34();
        System.out.println(wrong == 0 ? "every promise is kept" : wrong + " answers are not as due");
        if (wrong != 0) {
            System.exit(1);
        }
    }
}
