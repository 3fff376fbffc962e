import java.util.function.IntToLongFunction;

/** What tests of sentences share: the sentence in hand, answers held against those due, circuits from texts. */
abstract class Checks {
    static final int BAD = -1, NOT = -2, FULL = -3, NONE = -4, NULL = -11, CAST = -12, INDEX = -13, SIZE = -14;
    static final int MIN = Integer.MIN_VALUE, MAX = Integer.MAX_VALUE;
    /** Parties of all kinds; sits 1, then, nobody throwing, 2 2 3 0 3 1 3; won by 1 1 2 4 0 0 2. */
    static final String ALL = "cp3,b0,s5,l1,f9;4-,72,00,91;014,123,235,340,018,405,217;1";
    /** As much of everything as there can be. */
    static final String MOST = "cp9,b8,s7,l6,f5,p4;95,84,73,62,51,40;019,121,232,343,454,505,016,127,238,349,450,501;5";
    /** Case k has weight k, and its judge favours nobody, so that leans by (k, 0) are 0 to k. */
    static final String SCALE = "cp0,p0;5-;010,011,012,013,014,015,016,017,018,019;0";

    private static String sentence = "";
    private static int row = 0;
    private static int sentences = 0;
    private static int wrong = 0;

    /** From here on it is this sentence of the document that is tested. */
    static void sentence(String told) {
        sentence = told;
        row = 0;
        sentences++;
    }

    static void due(long got, long want) {
        row++;
        if (got != want) {
            fail("answered " + got + ", due is " + want);
        }
    }

    static void fail(String what) {
        wrong++;
        if (wrong <= 50) {
            System.out.println(sentence + " (row " + row + "): " + what + " at " + caller());
        }
    }

    private static String caller() {
        for (StackTraceElement at : new Throwable().getStackTrace()) {
            if (!at.getClassName().equals("Checks")) {
                return at.toString();
            }
        }
        return "?";
    }

    /** A call for a number and those behind it, one by one: what is due for each. */
    static void along(int first, IntToLongFunction call, long... want) {
        for (int k = 0; k < want.length; k++) {
            due(call.applyAsLong(first + k), want[k]);
        }
    }

    /** A call is BAD for numbers that are far outside, too. */
    static void badFarOff(IntToLongFunction call) {
        for (int far : new int[] {MIN, MIN + 1, -1000, 1000, 1 << 30, MAX - 1, MAX}) {
            due(call.applyAsLong(far), BAD);
        }
    }

    static void feed(LoserPicks x, String text) {
        for (int i = 0; i < text.length(); i++) {
            x.feed(text.charAt(i));
        }
    }

    static int read(LoserPicks x, String text) {
        feed(x, text);
        return x.circuit();
    }

    static LoserPicks of(String text) {
        LoserPicks x = new LoserPicks();
        if (read(x, text) < 1) {
            fail("not read: " + text);
        }
        return x;
    }

    /** The same thing n times, with , between. */
    static String row(String one, int n) {
        StringBuilder all = new StringBuilder();
        for (int k = 0; k < n; k++) {
            all.append(k == 0 ? "" : ",").append(one);
        }
        return all.toString();
    }

    static void hear(LoserPicks x, int n) {
        for (int k = 0; k < n; k++) {
            x.hear(0);
        }
    }

    static void lay(LoserPicks x, int sheet, int lane, long... items) {
        x.sheet(sheet, lane, items.length);
        for (int i = 0; i < items.length; i++) {
            x.item(sheet, lane, i, items[i]);
        }
    }

    /** What a sheet holds at i, if that is 0 to 9, by way of sheet 3; the circuit is SCALE from then on. */
    static int seen(LoserPicks x, int sheet, int lane, int i) {
        if (x.count(2) != 10) {
            read(x, SCALE);
        }
        x.sheet(3, lane, 2);
        x.copy(sheet, i, 3, 0, 1);
        int set = x.leans(0, 3, lane, 0, 1, 0);
        return set < 0 ? set : Integer.bitCount(set) - 1;
    }

    static void finish(String name) {
        System.out.println(wrong == 0 ? name + ": all " + sentences + " sentences hold"
            : name + ": " + wrong + " answers are not as due");
        if (wrong != 0) {
            System.exit(1);
        }
    }
}
