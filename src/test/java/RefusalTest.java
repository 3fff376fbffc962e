import java.util.ArrayList;
import java.util.List;
import java.util.function.Supplier;
import java.util.function.ToLongFunction;

/**
 * Two sentences on answers below 0: "of several the first that a call names", and "What is refused changes nothing, but
 * as told". For the second one the same object is made twice, one of them is asked what it must refuse, and then all
 * that calls can tell of both is held against one another: what stands, what can be undone, images, sheets, the tape.
 */
public final class RefusalTest extends Checks {
    private static final String BEGUN = "cp3,b0;4-,7", REST = "1;015,106;1";

    private static final class Call {
        final String told;
        final ToLongFunction<LoserPicks> call;
        final long answer;

        Call(String told, long answer, ToLongFunction<LoserPicks> call) {
            this.told = told;
            this.call = call;
            this.answer = answer;
        }
    }

    private static final List<Call> calls = new ArrayList<>();

    private static void call(String told, long answer, ToLongFunction<LoserPicks> call) {
        calls.add(new Call(told, answer, call));
    }

    // ---- objects in some state

    /** Rows of 0 and 1: a byte row that is full, a short one of shorts, longs without any; sheet 3 is nothing. */
    private static void laySheets(LoserPicks x) {
        x.sheet(0, 0, 24);
        for (int i = 0; i < 24; i++) {
            x.item(0, 0, i, i * i / 3 % 2);
        }
        lay(x, 1, 1, 1, 0, 0, 1, 1);
        x.sheet(2, 3, 0);
    }

    private static LoserPicks withoutCircuit() {
        LoserPicks x = new LoserPicks();
        laySheets(x);
        feed(x, BEGUN);
        return x;
    }

    /** Case 3 is next, one act of each kind can be undone, one image is kept. */
    private static LoserPicks midway() {
        LoserPicks x = of(ALL);
        laySheets(x);
        x.hear(0);
        x.image(1);
        x.swap(4, 5);
        x.soothe(4);
        x.seat(0);
        x.lean(1, 2);
        x.hear(1);
        x.hear(0);
        feed(x, BEGUN);
        return x;
    }

    /** All cases are heard, more acts were done than can be undone, both images are kept, the tape is full. */
    private static LoserPicks ended() {
        LoserPicks x = of(ALL);
        laySheets(x);
        x.image(0);
        hear(x, 7);
        for (int k = 0; k < 9; k++) {
            x.seat(k % 4);
            x.lean(k % 4, k);
        }
        x.soothe(4);
        x.soothe(2);
        x.image(1);
        feed(x, MOST + "x".repeat(130 - MOST.length()));
        return x;
    }

    // ---- all that calls can tell of an object, in parts that stay within its 512 calls

    private static void tellShape(LoserPicks x, StringBuilder all) {
        for (int what = 0; what < 9; what++) {
            all.append(x.count(what)).append(' ');
        }
        for (int what = 0; what < 4; what++) {
            for (int k = 0; k < 5; k++) {
                all.append(x.party(k, what)).append(' ');
            }
            for (int k = 0; k < 4 && what < 3; k++) {
                all.append(x.judge(k, what)).append(' ');
            }
            for (int k = 0; k < 7; k++) {
                all.append(x.trial(k, what)).append(' ');
            }
        }
    }

    private static void tellForetold(LoserPicks x, StringBuilder all) {
        for (int k = 0; k < 5; k++) {
            all.append(x.worth(k)).append(' ').append(x.bench(k)).append(' ').append(x.names(k, 2)).append(' ');
        }
        for (int k = 0; k < 7; k++) {
            all.append(x.ahead(k, 0)).append(' ').append(x.round(k, 0)).append(' ').append(x.finds(0, k)).append(' ');
        }
        all.append(x.decades(50, 77, 0)).append(' ').append(x.duel(0, 1, 8)).append(' ').append(x.order(4, 3));
    }

    private static void tellUndone(LoserPicks x, StringBuilder all) {
        for (int k = 0; k < 25; k++) {
            all.append(x.undo()).append(' ');
            for (int what = 3; what <= 5; what++) {
                all.append(x.count(what)).append(' ');
            }
            all.append(x.judge(k % 4, 0)).append(' ').append(x.trial(4, 2)).append(' ').append(x.party(4, 1)).append(' ');
        }
        tellShape(x, all);
    }

    private static void tellImages(LoserPicks x, StringBuilder all) {
        for (int k = 0; k < 2; k++) {
            all.append(x.restore(k)).append(' ');
            tellShape(x, all);
        }
    }

    private static void tellTape(LoserPicks x, StringBuilder all) {
        feed(x, REST);
        all.append(x.count(8)).append(' ').append(x.circuit()).append(' ');
        tellShape(x, all);
    }

    private static void tellSheets(LoserPicks x, StringBuilder all) {
        x.circuit();
        read(x, SCALE);
        for (int s = 0; s < 4; s++) {
            int lane = s == 2 ? 3 : s;
            for (int i = 0; i < 24; i++) {
                all.append(x.leans(0, s, lane, i, 1, 0)).append(' ');
            }
            for (int k = 0; k < 4; k++) {
                all.append(x.item(s, k, 24, 0)).append(' ');
            }
            all.append(x.drop(s)).append(' ').append(x.drop(s)).append(' ');
        }
    }

    private static String part(LoserPicks x, int part) {
        StringBuilder all = new StringBuilder();
        switch (part) {
            case 0: tellShape(x, all); break;
            case 1: tellForetold(x, all); break;
            case 2: tellUndone(x, all); break;
            case 3: tellImages(x, all); break;
            case 4: tellTape(x, all); break;
            default: tellSheets(x, all); break;
        }
        return all.toString();
    }

    /** Each of the calls has its answer, and behind it all is as it would be without it. */
    private static void changeNothing(Supplier<LoserPicks> made) {
        for (Call c : calls) {
            for (int part = 0; part < 6; part++) {
                LoserPicks x = made.get();
                long got = c.call.applyAsLong(x);
                if (c.answer != ANY && got != c.answer) {
                    fail(c.told + " answered " + got + ", due is " + c.answer);
                }
                if (!part(x, part).equals(part(made.get(), part))) {
                    fail(c.told + " changed something, part " + part);
                }
            }
        }
        calls.clear();
    }

    /** For calls that are not refused, but change nothing either. */
    private static final long ANY = Long.MIN_VALUE + 77;

    // ---- refused calls

    private static void refusedWithoutCircuit() {
        sentence("refused without a CIRCUIT: nothing is changed");
        call("feed(-1)", BAD, x -> x.feed(-1));
        call("feed(256)", BAD, x -> x.feed(256));
        call("party", BAD, x -> x.party(0, 0));
        call("as", BAD, x -> x.as(0, 0));
        call("judge", BAD, x -> x.judge(0, 0));
        call("trial", BAD, x -> x.trial(0, 0));
        call("finds", BAD, x -> x.finds(0, 0));
        call("names", BAD, x -> x.names(0, 0));
        call("hear(0)", NOT, x -> x.hear(0));
        call("hear(3)", BAD, x -> x.hear(3));
        call("swap", BAD, x -> x.swap(0, 1));
        call("soothe", BAD, x -> x.soothe(0));
        call("seat", BAD, x -> x.seat(0));
        call("lean", BAD, x -> x.lean(0, 0));
        call("undo", NONE, LoserPicks::undo);
        call("image(0)", NOT, x -> x.image(0));
        call("image(2)", BAD, x -> x.image(2));
        call("restore(0)", NOT, x -> x.restore(0));
        call("restore(2)", BAD, x -> x.restore(2));
        call("ahead(0, 1)", NOT, x -> x.ahead(0, 1));
        call("ahead(13, 1)", BAD, x -> x.ahead(13, 1));
        call("throwing", BAD, x -> x.throwing(0, 0));
        call("worth", BAD, x -> x.worth(0));
        call("duel", BAD, x -> x.duel(0, 1, 0));
        call("order", NOT, x -> x.order(0, -1));
        call("round", BAD, x -> x.round(0, 0));
        call("bench", BAD, x -> x.bench(0));
        call("errors", BAD, x -> x.errors(0, 1, 0, 0));
        call("decades", NOT, x -> x.decades(0, 1, 0));
        call("log", NOT, x -> x.log(0, 0, 0, 1));
        call("leans", BAD, x -> x.leans(0, 0, 0, 0, 1, 0));
        call("kinds", BAD, x -> x.kinds(0, 0, 0, 0, 1, 0));
        call("count", BAD, x -> x.count(9));
        changeNothing(RefusalTest::withoutCircuit);
    }

    private static void refusedLooks() {
        sentence("refused when something is told: nothing is changed");
        call("feed(-1)", BAD, x -> x.feed(-1));
        call("feed(256)", BAD, x -> x.feed(256));
        call("party(5, 0)", BAD, x -> x.party(5, 0));
        call("party(0, 4)", BAD, x -> x.party(0, 4));
        call("as(5, 0)", BAD, x -> x.as(5, 0));
        call("as(0, 6)", BAD, x -> x.as(0, 6));
        call("as(0, 2)", CAST, x -> x.as(0, 2));
        call("judge(4, 0)", BAD, x -> x.judge(4, 0));
        call("judge(0, 3)", BAD, x -> x.judge(0, 3));
        call("trial(7, 0)", BAD, x -> x.trial(7, 0));
        call("trial(0, 4)", BAD, x -> x.trial(0, 4));
        call("finds(4, 0)", BAD, x -> x.finds(4, 0));
        call("finds(0, 7)", BAD, x -> x.finds(0, 7));
        call("names(5, 0)", BAD, x -> x.names(5, 0));
        call("names(0, 4)", BAD, x -> x.names(0, 4));
        call("count(-1)", BAD, x -> x.count(-1));
        call("count(9)", BAD, x -> x.count(9));
        changeNothing(RefusalTest::midway);
    }

    private static void refusedActs() {
        sentence("refused ACTS and IMAGES: nothing is changed, and nothing more can be undone");
        call("hear(-1)", BAD, x -> x.hear(-1));
        call("hear(3)", BAD, x -> x.hear(3));
        call("swap(3, 7)", BAD, x -> x.swap(3, 7));
        call("swap(-1, 3)", BAD, x -> x.swap(-1, 3));
        call("swap(4, 4)", NOT, x -> x.swap(4, 4));
        call("swap(2, 3)", NOT, x -> x.swap(2, 3));
        call("swap(3, 2)", NOT, x -> x.swap(3, 2));
        call("swap(0, 1)", NOT, x -> x.swap(0, 1));
        call("soothe(-1)", BAD, x -> x.soothe(-1));
        call("soothe(5)", BAD, x -> x.soothe(5));
        call("seat(-1)", BAD, x -> x.seat(-1));
        call("seat(4)", BAD, x -> x.seat(4));
        call("seat(who sits)", NOT, x -> x.seat(x.count(4)));
        call("lean(4, 0)", BAD, x -> x.lean(4, 0));
        call("lean(-1, 0)", BAD, x -> x.lean(-1, 0));
        call("lean(0, -1)", BAD, x -> x.lean(0, -1));
        call("lean(0, 10)", BAD, x -> x.lean(0, 10));
        call("lean(0, 4)", NOT, x -> x.lean(0, 4));
        call("image(-1)", BAD, x -> x.image(-1));
        call("image(2)", BAD, x -> x.image(2));
        call("restore(-1)", BAD, x -> x.restore(-1));
        call("restore(2)", BAD, x -> x.restore(2));
        call("restore(0)", NOT, x -> x.restore(0));
        changeNothing(RefusalTest::midway);
        call("feed", FULL, x -> x.feed(99));
        call("feed(256)", BAD, x -> x.feed(256));
        call("hear(0)", NOT, x -> x.hear(0));
        call("hear(1)", NOT, x -> x.hear(1));
        call("hear(2)", NOT, x -> x.hear(2));
        call("swap(5, 6)", NOT, x -> x.swap(5, 6));
        call("seat(0)", NOT, x -> x.seat(0));
        call("lean(0, 8)", NOT, x -> x.lean(0, 8));
        call("soothe(5)", BAD, x -> x.soothe(5));
        call("soothe(2)", NOT, x -> x.soothe(2));
        changeNothing(RefusalTest::ended);
    }

    private static void refusedForetelling() {
        sentence("refused foretelling: nothing is changed");
        call("ahead(-1, 0)", BAD, x -> x.ahead(-1, 0));
        call("ahead(13, 0)", BAD, x -> x.ahead(13, 0));
        call("ahead(0, 2)", BAD, x -> x.ahead(0, 2));
        call("ahead(5, 1)", NONE, x -> x.ahead(5, 1));
        call("throwing(5, 3)", BAD, x -> x.throwing(5, 3));
        call("throwing(0, 7)", BAD, x -> x.throwing(0, 7));
        call("throwing(0, 3)", NOT, x -> x.throwing(0, 3));
        call("throwing(0, 0)", NOT, x -> x.throwing(0, 0));
        call("worth(5)", BAD, x -> x.worth(5));
        call("duel(0, 0, 1)", BAD, x -> x.duel(0, 0, 1));
        call("duel(0, 5, 1)", BAD, x -> x.duel(0, 5, 1));
        call("duel(0, 1, 9)", BAD, x -> x.duel(0, 1, 9));
        call("order(7, -1)", BAD, x -> x.order(7, -1));
        call("order(5, -1)", NONE, x -> x.order(5, -1));
        call("order(1, -2)", BAD, x -> x.order(1, -2));
        call("order(1, 1)", NONE, x -> x.order(1, 1));
        call("round(7, 0)", BAD, x -> x.round(7, 0));
        call("round(0, 2)", BAD, x -> x.round(0, 2));
        call("bench(5)", BAD, x -> x.bench(5));
        call("errors(5, 1, 0, 0)", BAD, x -> x.errors(5, 1, 0, 0));
        call("errors(0, 7, 0, 0)", BAD, x -> x.errors(0, 7, 0, 0));
        call("errors(0, 1, 11, 0)", BAD, x -> x.errors(0, 1, 11, 0));
        call("errors(0, 1, 0, 2)", BAD, x -> x.errors(0, 1, 0, 2));
        call("errors(0, 5, 0, 0)", NONE, x -> x.errors(0, 5, 0, 0));
        call("decades(61, 1, 0)", BAD, x -> x.decades(61, 1, 0));
        call("decades(1, 0, 0)", BAD, x -> x.decades(1, 0, 0));
        call("decades(1, 1000000, 0)", BAD, x -> x.decades(1, 1000000, 0));
        call("decades(1, 1, 2)", BAD, x -> x.decades(1, 1, 2));
        changeNothing(RefusalTest::midway);
    }

    private static void refusedSheets() {
        sentence("refused upon SHEETS: nothing is changed");
        call("sheet(4, 0, 1)", BAD, x -> x.sheet(4, 0, 1));
        call("sheet(-1, 0, 1)", BAD, x -> x.sheet(-1, 0, 1));
        call("sheet(0, 4, 1)", BAD, x -> x.sheet(0, 4, 1));
        call("sheet(0, -1, 1)", BAD, x -> x.sheet(0, -1, 1));
        call("sheet(0, 1, 25)", BAD, x -> x.sheet(0, 1, 25));
        call("sheet(0, 1, -1)", SIZE, x -> x.sheet(0, 1, -1));
        call("sheet(3, 0, 25)", BAD, x -> x.sheet(3, 0, 25));
        call("sheet(3, 0, -1)", SIZE, x -> x.sheet(3, 0, -1));
        call("drop(4)", BAD, x -> x.drop(4));
        call("drop(-1)", BAD, x -> x.drop(-1));
        call("drop(3)", NULL, x -> x.drop(3));
        call("item(4, 0, 0, 7)", BAD, x -> x.item(4, 0, 0, 7));
        call("item(0, 4, 0, 7)", BAD, x -> x.item(0, 4, 0, 7));
        call("item(3, 0, 0, 7)", NULL, x -> x.item(3, 0, 0, 7));
        call("item(0, 1, 0, 7)", CAST, x -> x.item(0, 1, 0, 7));
        call("item(0, 0, 24, 7)", INDEX, x -> x.item(0, 0, 24, 7));
        call("item(1, 1, 5, 7)", INDEX, x -> x.item(1, 1, 5, 7));
        call("item(1, 1, -1, 7)", INDEX, x -> x.item(1, 1, -1, 7));
        call("copy(4, 0, 0, 0, 1)", BAD, x -> x.copy(4, 0, 0, 0, 1));
        call("copy(0, 0, -1, 0, 1)", BAD, x -> x.copy(0, 0, -1, 0, 1));
        call("copy(3, 0, 0, 0, 1)", NULL, x -> x.copy(3, 0, 0, 0, 1));
        call("copy(0, 0, 3, 0, 1)", NULL, x -> x.copy(0, 0, 3, 0, 1));
        call("copy(0, 0, 1, 0, 5)", CAST, x -> x.copy(0, 0, 1, 0, 5));
        call("copy(0, 0, 0, 1, 24)", INDEX, x -> x.copy(0, 0, 0, 1, 24));
        call("copy(0, 1, 0, 0, 24)", INDEX, x -> x.copy(0, 1, 0, 0, 24));
        call("copy(1, 0, 1, 1, 5)", INDEX, x -> x.copy(1, 0, 1, 1, 5));
        call("copy(1, 0, 1, 1, -1)", INDEX, x -> x.copy(1, 0, 1, 1, -1));
        call("copy(1, -1, 1, 0, 2)", INDEX, x -> x.copy(1, -1, 1, 0, 2));
        call("copy(1, 0, 1, -1, 2)", INDEX, x -> x.copy(1, 0, 1, -1, 2));
        call("log(4, 0, 0, 1)", BAD, x -> x.log(4, 0, 0, 1));
        call("log(0, 4, 0, 1)", BAD, x -> x.log(0, 4, 0, 1));
        call("log(0, 0, 0, 0)", BAD, x -> x.log(0, 0, 0, 0));
        call("log(0, 0, 0, 13)", BAD, x -> x.log(0, 0, 0, 13));
        call("log(3, 0, 0, 1)", NULL, x -> x.log(3, 0, 0, 1));
        call("log(0, 1, 0, 1)", CAST, x -> x.log(0, 1, 0, 1));
        call("log(1, 1, 2, 4)", INDEX, x -> x.log(1, 1, 2, 4));
        call("log(1, 1, -1, 4)", INDEX, x -> x.log(1, 1, -1, 4));
        call("log(0, 0, 0, 5)", NOT, x -> x.log(0, 0, 0, 5));
        call("leans(4, 0, 0, 0, 1, 0)", BAD, x -> x.leans(4, 0, 0, 0, 1, 0));
        call("leans(0, 0, 0, 0, 11, 0)", BAD, x -> x.leans(0, 0, 0, 0, 11, 0));
        call("leans(0, 3, 0, 0, 1, 0)", NULL, x -> x.leans(0, 3, 0, 0, 1, 0));
        call("leans(0, 0, 1, 0, 1, 0)", CAST, x -> x.leans(0, 0, 1, 0, 1, 0));
        call("leans(0, 1, 1, 4, 1, 0)", INDEX, x -> x.leans(0, 1, 1, 4, 1, 0));
        call("kinds(5, 0, 0, 0, 1, 0)", BAD, x -> x.kinds(5, 0, 0, 0, 1, 0));
        call("kinds(0, 0, 0, 0, 11, 0)", BAD, x -> x.kinds(0, 0, 0, 0, 11, 0));
        call("kinds(0, 3, 0, 0, 1, 0)", NULL, x -> x.kinds(0, 3, 0, 0, 1, 0));
        call("kinds(0, 0, 1, 0, 1, 0)", CAST, x -> x.kinds(0, 0, 1, 0, 1, 0));
        call("kinds(0, 1, 1, 4, 1, 0)", INDEX, x -> x.kinds(0, 1, 1, 4, 1, 0));
        changeNothing(RefusalTest::midway);
        call("leans of no CASE", NOT, x -> x.leans(0, 0, 0, 22, 1, 0));
        call("kinds of no JUDGE", NOT, x -> x.kinds(0, 0, 0, 22, 1, 0));
        changeNothing(() -> {
            LoserPicks x = midway();
            x.item(0, 0, 23, 9);
            return x;
        });
    }

    private static void faultyTape() {
        sentence("3: a FAULT: all else stays, but THE TAPE");
        String[] faulty = {"", "x", "cl7,l7,l", "cl7,l7;15,1", "cl7,l7;11,10;105,013,0", "cl7,l7;11,10;105,013;1x"};
        int[] places = {0, 0, 8, 8, 22, 22};
        for (int k = 0; k < faulty.length; k++) {
            String text = faulty[k];
            call("circuit() of " + text, -100 - places[k], x -> {
                x.circuit();
                int answer = read(x, text);
                feed(x, BEGUN);
                return answer;
            });
        }
        List<Call> again = new ArrayList<>(calls);
        changeNothing(RefusalTest::midway);
        calls.addAll(again);
        changeNothing(RefusalTest::withoutCircuit);
    }

    private static void foretold() {
        sentence("3: FORETOLD from now (nothing changes)");
        for (int k = 0; k < 5; k++) {
            int p = k;
            call("ahead " + k, ANY, x -> x.ahead(p, p % 2));
            call("throwing " + k, ANY, x -> x.throwing(p, 6) + x.throwing(p, 3) + x.throwing(p, 5));
            call("worth " + k, ANY, x -> x.worth(p));
            call("duel " + k, ANY, x -> x.duel(p, (p + 1) % 5, 8));
            call("order " + k, ANY, x -> x.order(p, 0) + x.order(p, -1));
            call("round " + k, ANY, x -> x.round(p, 0) + x.round(p, 1));
            call("bench " + k, ANY, x -> x.bench(p));
            call("errors " + k, ANY, x -> x.errors(p, 4, 3, 0));
            call("decades " + k, ANY, x -> x.decades(12 * p, 5, 0));
            call("leans " + k, ANY, x -> x.leans(p % 4, 0, 0, p, 10, 0) + x.leans(p % 4, 0, 0, p, 2, 1));
            call("kinds " + k, ANY, x -> x.kinds(p, 0, 0, p, 10, 0) + x.kinds(p, 0, 0, p, 2, 1));
            call("party, as, judge " + k, ANY, x -> x.party(p, 3) + x.as(p, 0) + x.judge(p % 4, 0));
            call("trial, finds, names " + k, ANY, x -> x.trial(p, 3) + x.finds(p % 4, 6) + x.names(p, 1));
        }
        List<Call> again = new ArrayList<>(calls);
        changeNothing(RefusalTest::midway);
        calls.addAll(again);
        changeNothing(RefusalTest::ended);
        sentence("31: log changes its SHEET alone");
        for (int part = 0; part < 6; part++) {
            LoserPicks x = midway();
            due(x.log(1, 1, 0, 4), 4);
            due(part(x, part).equals(part(midway(), part)) ? 1 : 0, part == 5 ? 0 : 1);
        }
    }

    // ---- of several the first that a call names

    private static void firstOfSeveral() {
        sentence("of several the first that a call names: what is told and acts");
        LoserPicks x = ended();
        due(x.feed(256), BAD);
        due(x.feed(0), FULL);
        due(x.as(5, 4), BAD);
        due(x.as(0, 6), BAD);
        due(x.hear(3), BAD);
        due(x.hear(-1), BAD);
        due(x.hear(2), NOT);
        due(x.swap(0, 7), BAD);
        due(x.swap(-1, 6), BAD);
        due(x.swap(7, 7), BAD);
        due(x.swap(6, 6), NOT);
        LoserPicks none = new LoserPicks();
        due(none.hear(3), BAD);
        due(none.image(2), BAD);
        due(none.image(-1), BAD);
        due(none.restore(2), BAD);
        due(none.restore(-1), BAD);
        due(none.swap(0, 0), BAD);
        sentence("of several the first that a call names: foretold (NONE is an answer, and comes behind BAD and NOT)");
        due(none.ahead(-1, 0), BAD);
        due(none.ahead(13, 0), BAD);
        due(none.ahead(0, 2), BAD);
        due(none.ahead(0, 0), NOT);
        due(none.ahead(1, 0), NOT);
        due(none.order(7, 7), BAD);
        due(none.order(0, -2), BAD);
        due(none.order(0, 0), NOT);
        due(none.order(1, 1), NOT);
        due(none.decades(61, 1, 0), BAD);
        due(none.decades(1, 0, 0), BAD);
        due(none.decades(1, 1, 2), BAD);
        due(none.errors(0, 1, 1, 0), BAD);
        due(x.ahead(13, 0), BAD);
        due(x.ahead(1, 2), BAD);
        due(x.ahead(0, -1), BAD);
        due(x.ahead(1, 0), NONE);
        due(x.throwing(5, 0), BAD);
        due(x.throwing(0, 7), BAD);
        due(x.throwing(0, 0), NOT);
        due(x.order(7, 0), BAD);
        due(x.order(1, -2), BAD);
        due(x.order(-1, 0), BAD);
        due(x.errors(5, 1, 0, 0), BAD);
        due(x.errors(0, 7, 0, 0), BAD);
        due(x.errors(0, 1, 11, 0), BAD);
        due(x.errors(0, 1, 0, 2), BAD);
        due(x.errors(0, 1, 0, 0), NONE);
        LoserPicks y = of("cs0,s0,s0;9-;015,015;0");
        due(y.throwing(2, 1), NOT);
        due(y.throwing(0, 1), NONE);
    }

    private static void firstOfSeveralOnSheets() {
        sentence("of several the first that a call names: SHEETS");
        LoserPicks x = midway();
        due(x.sheet(4, 0, -1), BAD);
        due(x.sheet(0, 4, -1), BAD);
        due(x.item(4, 0, 99, 0), BAD);
        due(x.item(3, 4, 99, 0), BAD);
        due(x.item(3, -1, 99, 0), BAD);
        due(x.item(0, 4, 99, 0), BAD);
        due(x.item(3, 0, 99, 0), NULL);
        due(x.item(3, 1, -1, 0), NULL);
        due(x.item(0, 1, 99, 0), CAST);
        due(x.item(2, 1, -1, 0), CAST);
        due(x.copy(4, 0, 3, 0, -1), BAD);
        due(x.copy(3, 0, 4, 0, -1), BAD);
        due(x.copy(3, 99, 0, 0, -1), NULL);
        due(x.copy(0, 99, 3, 0, -1), NULL);
        due(x.copy(0, 99, 1, 0, 1), CAST);
        due(x.copy(0, 0, 1, -1, -1), CAST);
        due(x.log(4, 0, 99, 1), BAD);
        due(x.log(3, 4, 99, 1), BAD);
        due(x.log(3, 0, 99, 13), BAD);
        due(x.log(0, 1, 99, 0), BAD);
        due(x.log(0, 0, 99, 13), BAD);
        due(x.log(3, 0, 99, 12), NULL);
        due(x.log(0, 1, 99, 12), CAST);
        due(x.log(1, 1, 0, 6), INDEX);
        due(x.log(1, 1, 1, 5), INDEX);
        due(x.log(1, 1, 0, 5), NOT);
        sentence("of several the first that a call names: LEANS and KINDS");
        x.item(0, 0, 23, 9);
        due(x.leans(4, 3, 0, 99, 1, 0), BAD);
        due(x.leans(0, 4, 0, 99, 1, 0), BAD);
        due(x.leans(0, 3, 4, 99, 1, 0), BAD);
        due(x.leans(0, 3, 0, 99, 11, 0), BAD);
        due(x.leans(0, 0, 1, 99, 0, 0), BAD);
        due(x.leans(0, 0, 0, 22, 1, 2), BAD);
        due(x.leans(0, 3, 0, 99, 1, 0), NULL);
        due(x.leans(0, 0, 1, 99, 1, 0), CAST);
        due(x.leans(0, 0, 0, 22, 2, 0), INDEX);
        due(x.leans(0, 0, 0, 23, 1, 0), INDEX);
        due(x.leans(0, 0, 0, 22, 1, 1), NOT);
        due(x.kinds(5, 3, 0, 99, 1, 0), BAD);
        due(x.kinds(0, 4, 0, 99, 1, 0), BAD);
        due(x.kinds(0, 3, 4, 99, 1, 0), BAD);
        due(x.kinds(0, 3, 0, 99, 11, 0), BAD);
        due(x.kinds(0, 0, 1, 99, 0, 0), BAD);
        due(x.kinds(0, 0, 0, 22, 1, 2), BAD);
        due(x.kinds(0, 3, 0, 99, 1, 0), NULL);
        due(x.kinds(0, 0, 1, 99, 1, 0), CAST);
        due(x.kinds(0, 0, 0, 22, 2, 0), INDEX);
        due(x.kinds(0, 0, 0, 23, 1, 0), INDEX);
        due(x.kinds(0, 0, 0, 22, 1, 1), NOT);
        LoserPicks none = withoutCircuit();
        due(none.log(3, 0, 0, 1), NULL);
        due(none.log(0, 1, 0, 1), CAST);
        due(none.log(0, 0, 24, 1), INDEX);
        due(none.log(0, 0, 0, 13), BAD);
        due(none.leans(0, 3, 0, 0, 1, 0), BAD);
        due(none.kinds(0, 3, 0, 0, 1, 0), BAD);
    }

    public static void main(String[] args) {
        refusedWithoutCircuit();
        refusedLooks();
        refusedActs();
        refusedForetelling();
        refusedSheets();
        faultyTape();
        foretold();
        firstOfSeveral();
        firstOfSeveralOnSheets();
        finish("refusals");
    }
}
