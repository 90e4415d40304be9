import java.util.ArrayList;
import java.util.List;
import java.util.function.ToLongFunction;

/** REFUSALS and FAULTS: what is told of them for all calls, with each call by which the document knows one. */
final class RefusalSentences {
    private static final String FIRST = "of several the first in the order in which a call's line tells them";
    private static final String NOTHING = "They change nothing (but fault(), of a call that names FAULTS).";
    private static final String FAULTS = "Of a call the first that is come to, in the order told; it answers -10 less it"
        + " (LOST, where a long is answered, as for refusals) and changes nothing; fault() tells it.";
    private static final int PROMISES = 33;

    /** A call that is refused, or comes to a FAULT, in the full TOWN or without one. */
    private record Refused(int promise, boolean isFull, String told, long want, ToLongFunction<DeputyTown> call) {
        boolean isFault() {
            return want < -10 && want > -15;
        }
    }

    private final Sentences s;
    private final List<Refused> all = new ArrayList<>();

    private RefusalSentences(Sentences s) {
        this.s = s;
    }

    static void all(Sentences s) {
        RefusalSentences part = new RefusalSentences(s);
        part.tellTown();
        part.tellHours();
        part.tellReadings();
        part.tellSheets();
        part.tellFaults();
        part.kinds();
        part.faultKinds();
        part.order();
        part.changeNothing();
        part.faultsChangeNothing();
    }

    private void full(int promise, String told, long want, ToLongFunction<DeputyTown> call) {
        all.add(new Refused(promise, true, told, want, call));
    }

    private void without(int promise, String told, long want, ToLongFunction<DeputyTown> call) {
        all.add(new Refused(promise, false, told, want, call));
    }

    /** Three THINGS, 8 BREAKS, 8 READINGS; SHEETS: 0 a row of bytes, 1 of no shorts, 2 of ints, 3 nothing. */
    private static DeputyTown fullTown() {
        DeputyTown x = Towns.in("e;t132;s231;m042");
        x.law(2);
        for (int k = 0; k < 8; k++) {
            x.smash(k % 3, 3 * k, 3 * k + 4);
            x.reading(0, 2);
        }
        x.tell(2);
        sheetsOf(x);
        return x;
    }

    private static DeputyTown noTown() {
        DeputyTown x = new DeputyTown();
        sheetsOf(x);
        return x;
    }

    private static void sheetsOf(DeputyTown x) {
        x.sheet(0, 0, 3);
        x.sheet(1, 1, 0);
        x.sheet(2, 2, 4);
        for (int i = 0; i < 3; i++) {
            x.put(0, i, 11 * i + 5);
            x.put(2, i, 700000 * i - 3);
        }
        x.lose(3);
    }

    private static DeputyTown made(Refused r) {
        return r.isFull ? fullTown() : noTown();
    }

    /** All that can be asked of it without a change; the FAULT first, as asking for cells changes it. */
    private static long[] stateOf(DeputyTown x) {
        List<Long> state = new ArrayList<>();
        state.add((long) x.fault());
        state.add((long) x.trace());
        state.add((long) x.ring());
        state.add((long) x.laws());
        for (int what = 0; what < 4; what++) {
            state.add((long) x.many(what));
            state.add((long) x.failed(what));
        }
        for (int t = 0; t < 4; t++) {
            for (int what = 0; what < 5; what++) {
                state.add((long) x.ofThing(t, what));
            }
        }
        for (int hour = 0; hour < Towns.HOURS; hour++) {
            state.add((long) x.undone(hour));
            state.add((long) x.serves(hour));
        }
        for (int k = 0; k < Towns.SHEETS; k++) {
            for (int lane = 0; lane < Towns.LANES; lane++) {
                for (int i = 0; i < 5; i++) {
                    state.add(x.cell(k, i, lane));
                }
                state.add((long) x.fault());
            }
        }
        long[] all = new long[state.size()];
        for (int k = 0; k < all.length; k++) {
            all[k] = state.get(k);
        }
        return all;
    }

    // ---- each call's refusals, those with several among them

    private void tellTown() {
        full(2, "town(4, 3, -1, -1)", Towns.UNKNOWN, x -> x.town(4, 3, -1, -1));
        full(2, "town(3, 3, -1, -1)", Towns.OUTSIDE, x -> x.town(3, 3, -1, -1));
        full(2, "town(0, 3, -1, -1)", Towns.OUTSIDE, x -> x.town(0, 3, -1, -1));
        full(2, "town(0, 0, 0, 3)", -100, x -> x.town(0, 0, 0, 3));
        full(3, "ofThing(3, 5)", Towns.UNKNOWN, x -> x.ofThing(3, 5));
        full(3, "ofThing(2, 5)", Towns.OUTSIDE, x -> x.ofThing(2, 5));
        without(4, "law(3)", Towns.OUTSIDE, x -> x.law(3));
        without(4, "law(1)", Towns.STATE, x -> x.law(1));
        full(4, "law(-1)", Towns.OUTSIDE, x -> x.law(-1));
        full(5, "depute(3, 3)", Towns.UNKNOWN, x -> x.depute(3, 3));
        full(5, "depute(3, 0)", Towns.UNKNOWN, x -> x.depute(3, 0));
        full(5, "depute(0, 3)", Towns.UNKNOWN, x -> x.depute(0, 3));
        full(5, "depute(0, 0)", Towns.OUTSIDE, x -> x.depute(0, 0));
        full(6, "smash(3, 1, 0)", Towns.UNKNOWN, x -> x.smash(3, 1, 0));
        full(6, "smash(0, 1, 0)", Towns.OUTSIDE, x -> x.smash(0, 1, 0));
        full(6, "smash(0, 0, 30)", Towns.OUTSIDE, x -> x.smash(0, 0, 30));
        full(6, "smash(0, 0, 29)", Towns.FULL, x -> x.smash(0, 0, 29));
        full(7, "glue(9)", Towns.OUTSIDE, x -> x.glue(9));
        full(7, "glue(-1)", Towns.OUTSIDE, x -> x.glue(-1));
    }

    private void tellHours() {
        full(8, "by(3, 30)", Towns.UNKNOWN, x -> x.by(3, 30));
        full(8, "by(2, 30)", Towns.OUTSIDE, x -> x.by(2, 30));
        without(9, "undone(30)", Towns.OUTSIDE, x -> x.undone(30));
        without(9, "undone(29)", Towns.STATE, x -> x.undone(29));
        without(10, "serves(-1)", Towns.OUTSIDE, x -> x.serves(-1));
        without(10, "serves(0)", Towns.STATE, x -> x.serves(0));
        without(11, "ring()", Towns.STATE, x -> x.ring());
        without(12, "first(2)", Towns.OUTSIDE, x -> x.first(2));
        without(12, "first(1)", Towns.STATE, x -> x.first(1));
        without(13, "frail(9, 2)", Towns.STATE, x -> x.frail(9, 2));
        full(13, "frail(4, 2)", Towns.OUTSIDE, x -> x.frail(4, 2));
        full(14, "plot(3)", Towns.UNKNOWN, x -> x.plot(3));
        without(15, "mend(-1)", Towns.OUTSIDE, x -> x.mend(-1));
        without(15, "mend(0)", Towns.STATE, x -> x.mend(0));
        full(16, "wave(3)", Towns.UNKNOWN, x -> x.wave(3));
        full(17, "roster(4, 3, -1, -1)", Towns.UNKNOWN, x -> x.roster(4, 3, -1, -1));
        without(17, "roster(4, 3, -1, -1)", Towns.UNKNOWN, x -> x.roster(4, 3, -1, -1));
        without(17, "roster(3, 3, -1, -1)", Towns.OUTSIDE, x -> x.roster(3, 3, -1, -1));
        without(17, "roster(3, 0, -1, -1)", Towns.STATE, x -> x.roster(3, 0, -1, -1));
        full(17, "roster(3, 3, -1, -1)", Towns.OUTSIDE, x -> x.roster(3, 3, -1, -1));
        full(17, "roster(2, 2, 0, 4)", Towns.OUTSIDE, x -> x.roster(2, 2, 0, 4));
        full(17, "roster(2, 2, 0, 3)", Towns.UNKNOWN, x -> x.roster(2, 2, 0, 3));
    }

    private void tellReadings() {
        full(18, "reading(3, 3)", Towns.UNKNOWN, x -> x.reading(3, 3));
        full(18, "reading(0, 3)", Towns.UNKNOWN, x -> x.reading(0, 3));
        full(18, "reading(0, 0)", Towns.FULL, x -> x.reading(0, 0));
        full(19, "back(9)", Towns.OUTSIDE, x -> x.back(9));
        full(19, "back(-1)", Towns.OUTSIDE, x -> x.back(-1));
        without(20, "failed(3)", Towns.OUTSIDE, x -> x.failed(3));
        without(20, "failed(2)", Towns.STATE, x -> x.failed(2));
        without(21, "laws()", Towns.STATE, x -> x.laws());
        full(22, "odds(3, 2)", Towns.LOST, x -> x.odds(3, 2));
        full(22, "odds(0, 2)", Towns.LOST, x -> x.odds(0, 2));
    }

    private void tellSheets() {
        full(23, "sheet(4, 3, -1)", Towns.UNKNOWN, x -> x.sheet(4, 3, -1));
        full(23, "sheet(0, 3, -1)", Towns.OUTSIDE, x -> x.sheet(0, 3, -1));
        full(23, "sheet(0, 0, 61)", Towns.OUTSIDE, x -> x.sheet(0, 0, 61));
        full(24, "lose(4)", Towns.UNKNOWN, x -> x.lose(4));
        full(25, "put(4, -1, 9)", Towns.UNKNOWN, x -> x.put(4, -1, 9));
        full(26, "cell(4, -1, 3)", Towns.LOST, x -> x.cell(4, -1, 3));
        full(26, "cell(3, -1, 3)", Towns.LOST, x -> x.cell(3, -1, 3));
        full(27, "copy(4, -1, 3, -1, -1)", Towns.UNKNOWN, x -> x.copy(4, -1, 3, -1, -1));
        full(27, "copy(3, -1, 4, -1, -1)", Towns.UNKNOWN, x -> x.copy(3, -1, 4, -1, -1));
        full(28, "tell(3)", Towns.UNKNOWN, x -> x.tell(3));
        full(29, "call(3)", Towns.UNKNOWN, x -> x.call(3));
        full(30, "as(3, 3)", Towns.UNKNOWN, x -> x.as(3, 3));
        full(30, "as(2, 3)", Towns.OUTSIDE, x -> x.as(2, 3));
        full(33, "many(4)", Towns.OUTSIDE, x -> x.many(4));
    }

    private void tellFaults() {
        full(2, "town(3, 0, -1, -1)", Towns.NULL, x -> x.town(3, 0, -1, -1));
        full(2, "town(0, 1, -1, -1)", Towns.CAST, x -> x.town(0, 1, -1, -1));
        full(2, "town(0, 0, -1, -1)", Towns.SIZE, x -> x.town(0, 0, -1, -1));
        full(2, "town(0, 0, 4, 0)", Towns.INDEX, x -> x.town(0, 0, 4, 0));
        full(17, "roster(3, 0, -1, -1)", Towns.NULL, x -> x.roster(3, 0, -1, -1));
        full(17, "roster(2, 0, -1, -1)", Towns.CAST, x -> x.roster(2, 0, -1, -1));
        full(17, "roster(2, 2, -1, -1)", Towns.SIZE, x -> x.roster(2, 2, -1, -1));
        full(17, "roster(2, 2, 2, 3)", Towns.INDEX, x -> x.roster(2, 2, 2, 3));
        full(23, "sheet(0, 1, -1)", Towns.SIZE, x -> x.sheet(0, 1, -1));
        full(25, "put(3, -1, 9)", Towns.NULL, x -> x.put(3, -1, 9));
        full(25, "put(2, 4, 9)", Towns.INDEX, x -> x.put(2, 4, 9));
        full(27, "copy(3, -1, 0, -1, -1)", Towns.NULL, x -> x.copy(3, -1, 0, -1, -1));
        full(27, "copy(0, -1, 3, -1, -1)", Towns.NULL, x -> x.copy(0, -1, 3, -1, -1));
        full(27, "copy(0, -1, 2, -1, -1)", Towns.CAST, x -> x.copy(0, -1, 2, -1, -1));
        full(27, "copy(2, 0, 2, 1, 4)", Towns.INDEX, x -> x.copy(2, 0, 2, 1, 4));
        full(27, "copy(2, 1, 2, 0, 4)", Towns.INDEX, x -> x.copy(2, 1, 2, 0, 4));
        full(30, "as(1, 2)", Towns.CAST, x -> x.as(1, 2));
    }

    // ---- the tests

    private void kinds() {
        s.test(3, "REFUSALS: UNKNOWN (there is no such THING, SHEET, place)", () -> {
            s.due("the constant", DeputyTown.UNKNOWN, -1);
            dueAllWith(Towns.UNKNOWN);
        });
        s.test(3, "OUTSIDE (another number is not as told)", () -> {
            s.due("the constant", DeputyTown.OUTSIDE, -2);
            dueAllWith(Towns.OUTSIDE);
        });
        s.test(4, "STATE (as told)", () -> {
            s.due("the constant", DeputyTown.STATE, -3);
            dueAllWith(Towns.STATE);
        });
        s.test(6, ", FULL;", () -> {
            s.due("the constant", DeputyTown.FULL, -4);
            dueAllWith(Towns.FULL);
        });
    }

    private void faultKinds() {
        s.test(32, "FAULTS are the machine's: 1 NULL (there is nothing)", () -> dueFaultsWith(Towns.NULL, 1));
        s.test(32, "2 CAST (it is of another LANE, kind)", () -> dueFaultsWith(Towns.CAST, 2));
        s.test(32, "3 INDEX (of cells from i on also where i is not 0 .. how many there are, if none of them is taken, too)", () -> {
            dueFaultsWith(Towns.INDEX, 3);
            DeputyTown x = Towns.in(Towns.plain(2));
            for (int i = -1; i <= 13; i++) {
                boolean isThere = i >= 0 && i <= 11;
                s.due("town(3, 0, " + i + ", 0)", x.town(3, 0, i, 0), isThere ? -100 : Towns.INDEX);
                s.due("roster(3, 0, " + i + ", 0)", x.roster(3, 0, i, 0), isThere ? Towns.OUTSIDE : Towns.INDEX);
                s.due("copy(3, " + i + ", 3, 0, 0)", x.copy(3, i, 3, 0, 0), isThere ? 0 : Towns.INDEX);
                s.due("copy(3, 0, 3, " + i + ", 0)", x.copy(3, 0, 3, i, 0), isThere ? 0 : Towns.INDEX);
            }
        });
        s.test(32, "4 SIZE (a length below 0).", () -> dueFaultsWith(Towns.SIZE, 4));
    }

    private void dueAllWith(long answer) {
        for (Refused r : all) {
            if (r.want == answer) {
                s.due(r.told, r.call.applyAsLong(made(r)), answer);
            }
        }
    }

    private void dueFaultsWith(long answer, int fault) {
        for (Refused r : all) {
            if (r.want == answer) {
                DeputyTown x = made(r);
                s.due(r.told, r.call.applyAsLong(x), answer);
                s.due("fault() behind " + r.told, x.fault(), fault);
            }
        }
    }

    private void order() {
        int[] withSeveral = {2, 3, 4, 5, 6, 8, 9, 10, 12, 15, 17, 18, 20, 22, 23, 25, 26, 27, 30};
        for (int promise : withSeveral) {
            s.test(promise, FIRST, () -> {
                for (Refused r : all) {
                    if (r.promise == promise) {
                        DeputyTown x = made(r);
                        s.due(r.told, r.call.applyAsLong(x), r.want);
                    }
                }
            });
        }
    }

    private void changeNothing() {
        for (int promise = 2; promise <= PROMISES; promise++) {
            int its = promise;
            if (all.stream().anyMatch(r -> r.promise == its && !r.isFault())) {
                s.test(promise, NOTHING, () -> {
                    for (Refused r : all) {
                        if (r.promise == its && !r.isFault()) {
                            dueUnchanged(r, namesFaults(its) ? 0 : 1);
                        }
                    }
                });
            }
        }
    }

    private void faultsChangeNothing() {
        for (int promise = 2; promise <= PROMISES; promise++) {
            int its = promise;
            if (all.stream().anyMatch(r -> r.promise == its && r.isFault())) {
                s.test(promise, FAULTS, () -> {
                    for (Refused r : all) {
                        if (r.promise == its && r.isFault()) {
                            dueUnchanged(r, (int) (-10 - r.want));
                        }
                    }
                });
            }
        }
        s.test(26, FAULTS, () -> {
            int[][] calls = {{3, -1, 0, 1}, {3, 0, 2, 1}, {0, -1, 1, 2}, {2, 9, 0, 2}, {0, 3, 0, 3}, {1, 0, 1, 3}, {2, -1, 2, 3}};
            for (int[] c : calls) {
                Refused r = new Refused(26, true, "cell(" + c[0] + ", " + c[1] + ", " + c[2] + ")", Towns.LOST,
                    x -> x.cell(c[0], c[1], c[2]));
                dueUnchanged(r, c[3]);
            }
        });
    }

    private static boolean namesFaults(int promise) {
        return promise == 2 || promise == 17 || promise == 23 || promise == 25 || promise == 26 || promise == 27 || promise == 30;
    }

    /** Asked with FAULT NULL ahead of it, so that it shows whether fault() becomes 0. */
    private void dueUnchanged(Refused r, int faultBehind) {
        DeputyTown x = made(r);
        long[] ahead = stateOf(x);
        x.put(3, 0, 0);
        s.due(r.told, r.call.applyAsLong(x), r.want);
        long[] behind = stateOf(x);
        s.due("fault() behind " + r.told, behind[0], faultBehind);
        for (int k = 1; k < ahead.length; k++) {
            s.due("state " + k + " behind " + r.told, behind[k], ahead[k]);
        }
    }
}
