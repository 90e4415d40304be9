/** For each promise of the document: ordinary inputs, the edges that it names, and wrong inputs. */
public final class PromiseTest {
    private static final int UNKNOWN = Towns.UNKNOWN, OUTSIDE = Towns.OUTSIDE, STATE = Towns.STATE, FULL = Towns.FULL;
    private static final int NONE = Towns.NONE, MIN = Towns.MIN, MAX = Towns.MAX;
    private static final int NULL = Towns.NULL, CAST = Towns.CAST, INDEX = Towns.INDEX, SIZE = Towns.SIZE;
    private static final long LOST = Towns.LOST;
    private static final String RING_OF_THREE = Towns.RING_OF_THREE;

    private final Checks checks = new Checks();

    public static void main(String[] args) {
        PromiseTest test = new PromiseTest();
        test.newObject();
        test.townTaken();
        test.townFirstFaults();
        test.townStrangers();
        test.townOfOddCodes();
        test.townRefusals();
        test.townMakesAllAnew();
        test.ofThing();
        test.law();
        test.depute();
        test.smash();
        test.glue();
        test.byLawFirst();
        test.byLawOneEach();
        test.byLawBest();
        test.tired();
        test.undone();
        test.serves();
        test.ring();
        test.first();
        test.frail();
        test.plot();
        test.mend();
        test.wave();
        test.roster();
        test.rosterRefusals();
        test.reading();
        test.back();
        test.failed();
        test.laws();
        test.odds();
        test.sheet();
        test.lose();
        test.put();
        test.cell();
        test.copy();
        test.copyRefusals();
        test.tellAndTrace();
        test.call();
        test.as();
        test.fault();
        test.many();
        test.checks.end();
    }

    // ---- helpers

    private void due(String what, long got, long want) {
        checks.due(what, got, want);
    }

    private void dueRow(String what, DeputyTown x, int hour, int... want) {
        for (int use = 0; use < want.length; use++) {
            due(what + ": by(" + use + ", " + hour + ")", x.by(use, hour), want[use]);
        }
    }

    private void dueAt(String text, long want) {
        DeputyTown x = new DeputyTown();
        due("TEXT " + text, Towns.townBy(x, text), want);
        due("THINGS by TEXT " + text, x.many(0), want < 0 ? 0 : want);
    }

    // ---- 1

    private void newObject() {
        DeputyTown x = new DeputyTown();
        for (int what = 0; what < 4; what++) {
            due("new: many(" + what + ")", x.many(what), 0);
        }
        due("new: trace", x.trace(), 0);
        due("new: fault", x.fault(), 0);
        for (int k = 0; k < 4; k++) {
            due("new: lose(" + k + ")", x.lose(k), 0);
        }
        due("new: ofThing", x.ofThing(0, 0), UNKNOWN);
        due("new: ring", x.ring(), STATE);
        due("new: glue(0)", x.glue(0), 0);
        due("new: glue(1)", x.glue(1), OUTSIDE);
        due("new: back(0)", x.back(0), 0);
        due("new: back(1)", x.back(1), OUTSIDE);
    }

    // ---- 2

    private void townTaken() {
        dueAt(RING_OF_THREE, 4);
        dueAt("e;t111;t011", 2);
        dueAt("e;t711;t711;t711;t711;t711;t711;t711;t611", 8);
        DeputyTown x = new DeputyTown();
        Towns.write(x, 0, 2, "??" + "e;t132;m098" + "e");
        due("a TEXT amid a row", x.town(0, 2, 2, 11), 2);
        due("its kind", x.ofThing(1, 0), 2);
        due("its FIT", x.ofThing(1, 2), 9);
        due("its LASTS", x.ofThing(1, 3), 8);
        due("one code too many", x.town(0, 2, 2, 12), -111);
        due("the old TOWN stays", x.many(0), 2);
    }

    private void townFirstFaults() {
        dueAt("", -100);
        dueAt("x", -100);
        dueAt("e", -101);
        dueAt("e;", -102);
        dueAt("ee", -101);
        dueAt("e;x", -102);
        dueAt("e;t", -103);
        dueAt("e;t011;t011", -103);
        dueAt("e;t811;t011", -103);
        dueAt("e;t811;x011", -103);
        dueAt("e;t/11;t011", -103);
        dueAt("e;t1", -104);
        dueAt("e;t101;t011", -104);
        dueAt("e;t1:1;t011", -104);
        dueAt("e;t11", -105);
        dueAt("e;t110;t011", -105);
        dueAt("e;t111", -106);
        dueAt("e;t111;t111", -108);
        dueAt("e;t111;", -107);
        dueAt("e;t111;t0111", -111);
        dueAt("e;t111;t011;", -112);
        dueAt("e;t111;s01", -110);
        String eight = "e;t111;t011;t011;t011;t011;t011;t011;t011";
        dueAt(eight, 8);
        dueAt(eight + ";", -141);
        dueAt(eight + ";t011", -141);
        dueAt("e;t111;t011;t011;t011;t011;t011;t011;t711", -138);
    }

    private void townStrangers() {
        dueAt("e;t211;t011", -103);
        dueAt("e;t111;t211", -108);
        dueAt("e;t711;t711;t011", -103);
        dueAt("e;t111;t711;t611", -108);
        dueAt("e;t211;t011;t011", 3);
        // What comes ahead of the end of the TEXT is told ahead of a stranger.
        dueAt("e;t711;t01", -110);
        dueAt("e;t711;t01x", -110);
        dueAt("e;t711", -106);
    }

    private void townOfOddCodes() {
        DeputyTown x = new DeputyTown();
        Towns.write(x, 0, 2, "e;t111;t011");
        x.put(0, 2, 116 + 256);
        due("a code that is no byte", x.town(0, 2, 0, 11), -102);
        Towns.write(x, 0, 0, "e;t111;t011");
        x.put(0, 2, 116 + 256);
        due("a code cut to a byte", x.town(0, 0, 0, 11), 2);
        x.put(0, 0, -155);
        due("a cut code with its sign", x.town(0, 0, 0, 11), 2);
        x.put(0, 4, -1);
        due("a code below 0", x.town(0, 0, 0, 11), -104);
    }

    private void townRefusals() {
        DeputyTown x = new DeputyTown();
        due("town: no SHEET below", x.town(-1, 9, 0, 0), UNKNOWN);
        due("town: no SHEET above", x.town(4, 9, 0, 0), UNKNOWN);
        due("town: LANE below", x.town(0, -1, 0, 0), OUTSIDE);
        due("town: LANE above", x.town(0, 3, 0, 0), OUTSIDE);
        due("town: nothing is no CAST", x.town(0, 2, -1, -1), NULL);
        due("fault of it", x.fault(), 1);
        due("town refused", x.town(0, 3, 0, 0), OUTSIDE);
        due("fault of a refusal", x.fault(), 0);
        x.sheet(0, 1, 12);
        due("town: CAST ahead of SIZE", x.town(0, 2, -1, -1), CAST);
        due("fault of it", x.fault(), 2);
        due("town: SIZE ahead of INDEX", x.town(0, 1, -1, -1), SIZE);
        due("fault of it", x.fault(), 4);
        due("town: i below", x.town(0, 1, -1, 0), INDEX);
        due("fault of it", x.fault(), 3);
        due("town: i beyond, none taken", x.town(0, 1, 13, 0), INDEX);
        due("town: i at the end, none taken", x.town(0, 1, 12, 0), -100);
        due("fault of it", x.fault(), 0);
        due("town: beyond", x.town(0, 1, 1, 12), INDEX);
        due("town: far beyond", x.town(0, 1, 12, MAX), INDEX);
        due("town: very far beyond", x.town(0, 1, MAX, MAX), INDEX);
        due("town: least of all", x.town(0, 1, MIN, MAX), INDEX);
        due("town: least SIZE", x.town(0, 1, 0, MIN), SIZE);
        due("no TOWN by all these", x.many(0), 0);
    }

    private void townMakesAllAnew() {
        DeputyTown x = Towns.in(RING_OF_THREE);
        x.law(2);
        x.smash(0, 0, 29);
        x.reading(0, 1);
        x.tell(0);
        Towns.townBy(x, "e;t111;t01");
        due("a fault: THINGS stay", x.many(0), 4);
        due("a fault: BREAKS stay", x.many(1), 1);
        due("a fault: READINGS stay", x.many(2), 1);
        due("a fault: the LAW stays", x.many(3), 2);
        due("taken", Towns.townBy(x, "e;s151;t061"), 2);
        due("THINGS", x.many(0), 2);
        due("BREAKS", x.many(1), 0);
        due("READINGS", x.many(2), 0);
        due("the LAW", x.many(3), 0);
        due("TRACE stays", x.trace(), 1);
        due("SHEETS stay", x.cell(3, 0, 0), 'e');
        due("no more THING 2", x.ofThing(2, 0), UNKNOWN);
        due("no more BREAKS", x.by(0, 0), 0);
        x.smash(0, 0, 0);
        due("nothing of the old BREAKS", x.by(0, 1), 0);
    }

    // ---- 3 to 7

    private void ofThing() {
        DeputyTown x = Towns.in(RING_OF_THREE + ";s398");
        int[][] want = {{0, 1, 3, 2, 3}, {1, 2, 3, 1, 4}, {2, 0, 4, 2, 10}, {0, 1, 2, 3, 2}, {1, 3, 9, 8, 10}};
        for (int t = 0; t < want.length; t++) {
            for (int what = 0; what < 5; what++) {
                due("ofThing(" + t + ", " + what + ")", x.ofThing(t, what), want[t][what]);
            }
        }
        due("ofThing: what above", x.ofThing(0, 5), OUTSIDE);
        due("ofThing: what below", x.ofThing(0, -1), OUTSIDE);
        due("ofThing: t above", x.ofThing(5, 9), UNKNOWN);
        due("ofThing: t below", x.ofThing(-1, 0), UNKNOWN);
        due("ofThing: NONE", x.ofThing(NONE, 0), UNKNOWN);
        due("ofThing: most", x.ofThing(MAX, 0), UNKNOWN);
        due("GOOD of the best MAYOR", Towns.in("e;m199;m099").ofThing(0, 4), 20);
    }

    private void law() {
        DeputyTown x = new DeputyTown();
        due("law ahead of a TOWN", x.law(1), STATE);
        due("OUTSIDE ahead of STATE", x.law(3), OUTSIDE);
        Towns.townBy(x, RING_OF_THREE);
        due("law(1)", x.law(1), 0);
        due("law(2)", x.law(2), 1);
        due("law(3)", x.law(3), OUTSIDE);
        due("law(-1)", x.law(-1), OUTSIDE);
        due("law(0)", x.law(0), 2);
        due("law(0) again", x.law(0), 0);
    }

    private void depute() {
        DeputyTown x = Towns.in(RING_OF_THREE);
        due("depute(3, 0)", x.depute(3, 0), 1);
        due("its DEPUTY", x.ofThing(3, 1), 0);
        due("depute(3, 0) again", x.depute(3, 0), 0);
        due("depute itself", x.depute(2, 2), OUTSIDE);
        due("depute: no THING", x.depute(4, 0), UNKNOWN);
        due("depute: no other", x.depute(0, 4), UNKNOWN);
        due("depute: UNKNOWN ahead of OUTSIDE", x.depute(4, 4), UNKNOWN);
        due("depute: below", x.depute(-1, 0), UNKNOWN);
        due("depute: other below", x.depute(0, -1), UNKNOWN);
        due("unchanged", x.ofThing(0, 1), 1);
        x.smash(3, 0, 0);
        due("who stands in now", x.by(3, 0), 0);
    }

    private void smash() {
        DeputyTown x = new DeputyTown();
        due("smash ahead of a TOWN", x.smash(0, 0, 0), UNKNOWN);
        Towns.townBy(x, RING_OF_THREE);
        due("smash: to below from", x.smash(0, 5, 4), OUTSIDE);
        due("smash: from below", x.smash(0, -1, 4), OUTSIDE);
        due("smash: to above", x.smash(0, 0, 30), OUTSIDE);
        due("smash: from above", x.smash(0, 30, 31), OUTSIDE);
        due("smash: UNKNOWN ahead of OUTSIDE", x.smash(4, -1, 4), UNKNOWN);
        due("smash: below", x.smash(-1, 0, 0), UNKNOWN);
        due("the first BREAK", x.smash(0, 3, 5), 0);
        due("the second BREAK", x.smash(0, 29, 29), 1);
        int[] hours = {2, 3, 5, 6, 28, 29};
        boolean[] whole = {true, false, false, true, true, false};
        for (int k = 0; k < hours.length; k++) {
            due("WHOLE in HOUR " + hours[k], x.by(0, hours[k]) == 0 ? 1 : 0, whole[k] ? 1 : 0);
        }
        for (int k = 2; k < 8; k++) {
            due("BREAK " + k, x.smash(1, 0, 0), k);
        }
        due("a ninth BREAK", x.smash(1, 0, 0), FULL);
        due("OUTSIDE ahead of FULL", x.smash(1, 1, 0), OUTSIDE);
        due("BREAKS", x.many(1), 8);
    }

    private void glue() {
        DeputyTown x = Towns.in(RING_OF_THREE);
        x.smash(0, 0, 9);
        x.smash(1, 0, 9);
        x.smash(2, 0, 9);
        due("glue(-1)", x.glue(-1), OUTSIDE);
        due("glue(4)", x.glue(4), OUTSIDE);
        due("glue(0)", x.glue(0), 3);
        due("all three BROKEN", x.undone(0), 7);
        due("glue(1)", x.glue(1), 2);
        due("the last one mended", x.by(2, 0), 2);
        due("the others not", x.by(1, 0), 2);
        due("the next BREAK", x.smash(3, 0, 0), 2);
        due("glue(3)", x.glue(3), 0);
        due("all mended", x.serves(0), 400);
    }

    // ---- 8 to 12

    private void byLawFirst() {
        DeputyTown x = Towns.in(RING_OF_THREE);
        dueRow("all WHOLE", x, 0, 0, 1, 2, 3);
        x.smash(0, 0, 0);
        x.smash(1, 0, 0);
        dueRow("0, 1 BROKEN", x, 0, 2, 2, 2, 3);
        x.smash(3, 0, 0);
        dueRow("0, 1, 3 BROKEN: one stands in for three", x, 0, 2, 2, 2, 2);
        x.smash(2, 0, 0);
        dueRow("all BROKEN", x, 0, NONE, NONE, NONE, NONE);
        dueRow("the HOUR behind", x, 1, 0, 1, 2, 3);
        due("by: no USE", x.by(4, 30), UNKNOWN);
        due("by: below", x.by(-1, 0), UNKNOWN);
        due("by: the last HOUR", x.by(3, 29), 3);
        due("by: HOUR above", x.by(0, 30), OUTSIDE);
        due("by: HOUR below", x.by(0, -1), OUTSIDE);
        due("by ahead of a TOWN", new DeputyTown().by(0, 0), UNKNOWN);
        DeputyTown y = Towns.in("e;t111;t211;t111;t011");
        y.smash(0, 0, 0);
        y.smash(1, 0, 0);
        dueRow("a row ends in a ring without the THING", y, 0, 2, 2, 2, 3);
        y.smash(2, 0, 0);
        dueRow("THING 3 is in no row", y, 0, NONE, NONE, NONE, 3);
        y.smash(3, 0, 0);
        y.glue(3);
        dueRow("the whole row of 3", y, 0, 1, 1, 2, 3);
    }

    private void byLawOneEach() {
        DeputyTown x = Towns.in(RING_OF_THREE);
        x.law(1);
        x.smash(0, 0, 0);
        x.smash(1, 0, 0);
        dueRow("2 stands in for 0 and is taken", x, 0, 2, NONE, 2, 3);
        x.depute(1, 3);
        x.depute(3, 2);
        dueRow("3 is taken, 2 is free", x, 0, 3, 2, 2, 3);
        DeputyTown y = Towns.in("e;t311;t311;t311;t211");
        y.law(1);
        y.smash(0, 0, 0);
        y.smash(1, 0, 0);
        dueRow("the second of the row", y, 0, 3, 2, 2, 3);
        DeputyTown z = Towns.in("e;t111;t211;t011");
        z.law(1);
        z.smash(0, 0, 0);
        z.smash(1, 1, 1);
        z.smash(0, 1, 1);
        dueRow("who SERVES its own USE is free to stand in", z, 0, 1, 1, 2);
        DeputyTown all = Towns.in("e;t311;t411;t311;t411;t311");
        all.law(1);
        for (int t = 0; t < 3; t++) {
            all.smash(t, 0, 0);
        }
        dueRow("all others stand in already", all, 0, 3, 4, NONE, 3, 4);
    }

    private void byLawBest() {
        DeputyTown x = Towns.in("e;t155;s245;t355;m415;t095");
        x.law(2);
        x.smash(0, 0, 29);
        dueRow("the most GOOD", x, 0, 4, 1, 2, 3, 4);
        x.smash(4, 0, 0);
        due("of several the first in the row", x.by(0, 0), 1);
        x.smash(1, 0, 0);
        due("the next of them", x.by(0, 0), 2);
        x.smash(2, 0, 0);
        due("the last", x.by(0, 0), 3);
        DeputyTown y = Towns.in("e;t111;t291;t091");
        y.law(2);
        y.smash(0, 0, 29);
        dueRow("one for a time", y, 0, 1, 1, 2);
        dueRow("then, as it is TIRED, the other", y, 1, 2, 1, 2);
        dueRow("then it again", y, 2, 1, 1, 2);
    }

    private void tired() {
        DeputyTown x = Towns.in("e;t112;t213;t014");
        x.smash(0, 0, 29);
        int[] want = {1, 1, 1, 2, 1, 1, 1, 2, 1};
        for (int hour = 0; hour < want.length; hour++) {
            due("1 LASTS 3: HOUR " + hour, x.by(0, hour), want[hour]);
        }
        DeputyTown y = Towns.in("e;t112;t012");
        y.smash(0, 0, 9);
        int[] alone = {1, 1, NONE, 1, 1, NONE, 1, 1, NONE, 1, 0};
        for (int hour = 0; hour < alone.length; hour++) {
            due("1 alone LASTS 2: HOUR " + hour, y.by(0, hour), alone[hour]);
        }
        y.glue(1);
        y.smash(0, 0, 0);
        y.smash(0, 2, 5);
        int[] rested = {1, 0, 1, 1, NONE, 1};
        for (int hour = 0; hour < rested.length; hour++) {
            due("an HOUR of rest: HOUR " + hour, y.by(0, hour), rested[hour]);
        }
        DeputyTown z = Towns.in("e;t211;t211;t011");
        z.smash(0, 0, 1);
        z.smash(1, 1, 1);
        dueRow("2 is not TIRED yet", z, 0, 2, 1, 2);
        dueRow("TIRED for USE 0, not for USE 1", z, 1, NONE, 2, 2);
        z.law(1);
        dueRow("who is TIRED for USE 0 is free for USE 1", z, 1, NONE, 2, 2);
    }

    private void undone() {
        DeputyTown x = new DeputyTown();
        due("undone ahead of a TOWN", x.undone(29), STATE);
        due("undone: OUTSIDE ahead of STATE", x.undone(30), OUTSIDE);
        Towns.townBy(x, RING_OF_THREE);
        due("undone: below", x.undone(-1), OUTSIDE);
        due("none", x.undone(0), 0);
        x.law(1);
        x.smash(0, 7, 7);
        x.smash(1, 7, 7);
        due("1 in HOUR 7", x.undone(7), 2);
        x.smash(2, 7, 7);
        due("0, 1, 2 in HOUR 7", x.undone(7), 7);
        x.smash(3, 7, 7);
        due("all in HOUR 7", x.undone(7), 15);
        due("none in HOUR 8", x.undone(8), 0);
    }

    private void serves() {
        DeputyTown x = new DeputyTown();
        due("serves ahead of a TOWN", x.serves(0), STATE);
        due("serves: OUTSIDE ahead of STATE", x.serves(-1), OUTSIDE);
        Towns.townBy(x, RING_OF_THREE);
        due("serves: above", x.serves(30), OUTSIDE);
        due("all by themselves", x.serves(29), 400);
        x.smash(0, 0, 0);
        due("by a SWORN one", x.serves(0), 340);
        x.smash(1, 0, 0);
        due("by a MAYOR: 99 at most", x.serves(0), 200 + 99 + 99);
        x.smash(2, 0, 0);
        due("three UNDONE", x.serves(0), 100);
        DeputyTown y = Towns.in("e;t111;t091;m041");
        y.smash(0, 0, 0);
        due("FIT 9", y.serves(0), 290);
        y.depute(0, 2);
        due("GOOD 10: 99", y.serves(0), 299);
    }

    // ---- 11 to 16

    private void ring() {
        DeputyTown x = Towns.in(RING_OF_THREE);
        due("three", x.ring(), 7);
        x.depute(0, 3);
        due("all", x.ring(), 15);
        x.depute(3, 0);
        due("two", x.ring(), 9);
        due("0 hangs on a ring", Towns.in("e;t111;t211;t111").ring(), 6);
        due("two rings", Towns.in("e;t111;t011;t311;t211;t011").ring(), 15);
        due("ring ahead of a TOWN", new DeputyTown().ring(), STATE);
    }

    private void first() {
        DeputyTown x = new DeputyTown();
        due("first ahead of a TOWN", x.first(0), STATE);
        due("first: OUTSIDE ahead of STATE", x.first(2), OUTSIDE);
        Towns.townBy(x, RING_OF_THREE);
        due("first: below", x.first(-1), OUTSIDE);
        due("no HOUR", x.first(0), NONE);
        due("no USE", x.first(1), NONE);
        x.smash(1, 29, 29);
        x.smash(0, 29, 29);
        x.smash(2, 29, 29);
        due("the last HOUR", x.first(0), 29);
        due("the least USE", x.first(1), 0);
        DeputyTown y = Towns.in("e;t111;t012;t011");
        y.smash(0, 0, 1);
        y.smash(1, 3, 3);
        y.smash(0, 3, 3);
        due("HOUR 3", y.first(0), 3);
        due("USE 0", y.first(1), 0);
        y.glue(1);
        due("none by then", y.first(0), NONE);
        y.smash(0, 2, 9);
        due("TIRED in HOUR 2", y.first(0), 2);
        DeputyTown z = Towns.in(RING_OF_THREE);
        z.law(1);
        z.smash(0, 4, 5);
        z.smash(1, 5, 5);
        due("first HOUR by LAW 1", z.first(0), 5);
        due("first USE by LAW 1", z.first(1), 1);
    }

    private void frail() {
        DeputyTown x = new DeputyTown();
        due("frail: STATE ahead of OUTSIDE", x.frail(9, 9), STATE);
        Towns.townBy(x, RING_OF_THREE);
        int[] sets = {0, 1, 3, 7, 15};
        int[] counts = {0, 0, 0, 3, 4};
        for (int k = 0; k <= 4; k++) {
            due("frail(" + k + ", 0)", x.frail(k, 0), sets[k]);
            due("frail(" + k + ", 1)", x.frail(k, 1), counts[k]);
        }
        due("frail: k below", x.frail(-1, 0), OUTSIDE);
        due("frail: k above", x.frail(5, 0), OUTSIDE);
        due("frail: what above", x.frail(0, 2), OUTSIDE);
        due("frail: what below", x.frail(0, -1), OUTSIDE);
        x.smash(0, 0, 29);
        x.smash(1, 0, 29);
        due("in place of all BREAKS", x.frail(1, 1), 0);
        DeputyTown y = Towns.in("e;t111;t011;t311;t211");
        due("two of a ring of two", y.frail(2, 0), 3);
        y.depute(0, 2);
        due("not the least set", y.frail(2, 0), 12);
        due("how many then", y.frail(2, 1), 2);
        x.law(1);
        due("by LAW 1", x.frail(2, 1), 1);
    }

    private void plot() {
        DeputyTown x = Towns.in(RING_OF_THREE);
        int[] want = {7, 7, 7, 15};
        for (int use = 0; use < 4; use++) {
            due("plot(" + use + ")", x.plot(use), want[use]);
        }
        due("plot: above", x.plot(4), UNKNOWN);
        due("plot: below", x.plot(-1), UNKNOWN);
        due("plot ahead of a TOWN", new DeputyTown().plot(0), UNKNOWN);
        x.smash(0, 0, 29);
        due("in place of all BREAKS", x.plot(0), 7);
        // Here 1 hangs on 2 alone, which by LAW 1 is taken if 0 is BROKEN.
        DeputyTown y = Towns.in("e;t211;t211;t111");
        due("by LAW 0 both must be BROKEN", y.plot(1), 6);
        y.law(1);
        due("by LAW 1 another one takes it away", y.plot(1), 3);
        DeputyTown z = Towns.in("e;t311;t311;t011;t211;t311");
        z.law(1);
        due("the least of the fewest", z.plot(1), 7);
        DeputyTown few = Towns.in("e;t111;t411;t311;t211;t211");
        few.law(1);
        few.reading(3, NONE);
        due("fewer THINGS ahead of a lesser set", few.plot(3), 12);
        due("so it is with READINGS", few.failed(1), 12);
    }

    private void mend() {
        DeputyTown x = new DeputyTown();
        due("mend ahead of a TOWN", x.mend(0), STATE);
        due("mend: OUTSIDE ahead of STATE", x.mend(2), OUTSIDE);
        Towns.townBy(x, RING_OF_THREE);
        due("mend: below", x.mend(-1), OUTSIDE);
        due("by none there are fewer", x.mend(0), NONE);
        due("as now", x.mend(1), 0);
        x.depute(1, 0);
        due("a ring of two: mend", x.mend(0), 3);
        due("UNDONE then", x.mend(1), 0);
        for (int t = 0; t < 4; t++) {
            due("a trial changes no DEPUTY", x.ofThing(t, 1), new int[] {1, 0, 0, 1}[t]);
        }
        x.smash(0, 0, 29);
        x.smash(1, 0, 29);
        due("in place of all BREAKS", x.mend(0), 3);
        DeputyTown two = Towns.in("e;t111;t011");
        due("no other DEPUTY: mend", two.mend(0), NONE);
        due("no other DEPUTY: UNDONE", two.mend(1), 2);
        DeputyTown best = Towns.in("e;t111;t011;t011;t011");
        due("now", best.frail(2, 1), 2);
        due("the best mend", best.mend(0), 12);
        due("by it", best.mend(1), 0);
        DeputyTown tie = Towns.in("e;t211;t211;t111");
        tie.depute(0, 1);
        due("0 -> 1 -> 2 -> 1: now", tie.frail(2, 1), 2);
        due("0 -> 1 -> 2 -> 0 is the best", tie.mend(0), 20);
        DeputyTown several = Towns.in("e;t211;t211;t111;t111");
        due("0 -> 2 -> 1 -> 2: now", several.frail(2, 1), 2);
        due("of several the least THING, then DEPUTY", several.mend(0), 10);
        due("by it", several.mend(1), 0);
        DeputyTown far = Towns.in("e;t111;t211;t111;t511;t511;t411");
        due("two rings of two: now", far.frail(2, 1), 2);
        due("two rings of two: mend", far.mend(0), NONE);
        due("two rings of two: as now", far.mend(1), 2);
    }

    private void wave() {
        DeputyTown x = Towns.in(RING_OF_THREE);
        int[] want = {1060, 1001, 1070, 1060};
        for (int t = 0; t < 4; t++) {
            due("wave(" + t + ")", x.wave(t), want[t]);
        }
        x.smash(0, 0, 0);
        x.smash(2, 1, 29);
        due("BROKEN already", x.wave(0), 1000);
        due("with the BREAKS of HOUR 0", x.wave(1), 1000 + 340 - 398);
        due("wave: above", x.wave(4), UNKNOWN);
        due("wave: below", x.wave(-1), UNKNOWN);
        due("wave ahead of a TOWN", new DeputyTown().wave(0), UNKNOWN);
        DeputyTown y = Towns.in("e;t111;t211;m191");
        y.smash(0, 0, 0);
        due("more SERVES than before", y.wave(1), 1000 + 210 - (99 + 99 + 100));
    }

    private void roster() {
        DeputyTown x = Towns.in(RING_OF_THREE);
        x.smash(0, 0, 0);
        x.sheet(0, 1, 5);
        x.put(0, 1, 1);
        x.put(0, 2, 1);
        x.put(0, 3, 2);
        x.put(0, 4, 3);
        due("all are so", x.roster(0, 1, 1, 4), NONE);
        x.put(0, 4, 0);
        due("the last is not", x.roster(0, 1, 1, 4), 3);
        x.put(0, 3, NONE);
        due("the first that is not", x.roster(0, 1, 1, 4), 2);
        x.smash(1, 0, 0);
        x.smash(2, 0, 0);
        x.sheet(0, 0, 4);
        for (int k = 0; k < 3; k++) {
            x.put(0, k, NONE);
        }
        x.put(0, 3, 3);
        due("UNDONE ones", x.roster(0, 0, 0, 4), NONE);
        due("no FAULT", x.fault(), 0);
    }

    private void rosterRefusals() {
        DeputyTown x = new DeputyTown();
        due("roster: SHEET", x.roster(4, 3, 0, 0), UNKNOWN);
        due("roster: SHEET below", x.roster(-1, 3, 0, 0), UNKNOWN);
        due("roster: LANE ahead of STATE", x.roster(0, 3, 0, 0), OUTSIDE);
        due("roster: STATE ahead of NULL", x.roster(0, 2, 0, 0), STATE);
        due("no FAULT", x.fault(), 0);
        Towns.townBy(x, "e;t111;t011");
        due("roster: NULL", x.roster(0, 2, -1, -1), NULL);
        due("its FAULT", x.fault(), 1);
        x.sheet(0, 2, 3);
        due("roster: CAST", x.roster(0, 1, -1, -1), CAST);
        due("its FAULT", x.fault(), 2);
        due("roster: SIZE", x.roster(0, 2, -1, -1), SIZE);
        due("its FAULT", x.fault(), 4);
        due("roster: INDEX ahead of OUTSIDE", x.roster(0, 2, 1, 3), INDEX);
        due("roster: i below", x.roster(0, 2, -1, 2), INDEX);
        due("roster: i above", x.roster(0, 2, 4, 0), INDEX);
        due("its FAULT", x.fault(), 3);
        due("roster: n", x.roster(0, 2, 0, 3), OUTSIDE);
        due("no FAULT", x.fault(), 0);
        due("roster: n 0", x.roster(0, 2, 3, 0), OUTSIDE);
        x.put(0, 1, 2);
        due("roster: no THING", x.roster(0, 2, 0, 2), UNKNOWN);
        x.put(0, 0, 2);
        x.put(0, 1, 1);
        due("roster: the first no THING", x.roster(0, 2, 0, 2), UNKNOWN);
        x.put(0, 0, 1);
        x.put(0, 1, 2);
        due("roster: UNKNOWN ahead of the first that is not", x.roster(0, 2, 0, 2), UNKNOWN);
        x.put(0, 1, -1);
        due("roster: -1 is no THING", x.roster(0, 2, 0, 2), UNKNOWN);
        x.put(0, 1, 1);
        due("roster: the first", x.roster(0, 2, 0, 2), 0);
    }

    // ---- 18 to 22

    private void reading() {
        DeputyTown x = new DeputyTown();
        due("reading ahead of a TOWN", x.reading(0, NONE), UNKNOWN);
        Towns.townBy(x, RING_OF_THREE);
        due("reading: no USE", x.reading(4, 0), UNKNOWN);
        due("reading: USE below", x.reading(-1, 0), UNKNOWN);
        due("reading: USE NONE", x.reading(NONE, 0), UNKNOWN);
        due("reading: no THING", x.reading(0, 4), UNKNOWN);
        due("reading: THING below", x.reading(0, -1), UNKNOWN);
        due("the first one", x.reading(0, NONE), 0);
        due("the second one", x.reading(0, 3), 1);
        for (int k = 2; k < 8; k++) {
            due("READING " + k, x.reading(1, 1), k);
        }
        due("a ninth one", x.reading(1, 1), FULL);
        due("UNKNOWN ahead of FULL", x.reading(1, 4), UNKNOWN);
        due("READINGS", x.many(2), 8);
    }

    private void back() {
        DeputyTown x = Towns.in(RING_OF_THREE);
        x.reading(0, 1);
        x.reading(0, 2);
        due("back(-1)", x.back(-1), OUTSIDE);
        due("back(3)", x.back(3), OUTSIDE);
        due("back(0)", x.back(0), 2);
        due("two that cannot be", x.failed(0), 0);
        due("back(1)", x.back(1), 1);
        due("the first one stays", x.failed(0), 4);
        due("the next one", x.reading(0, 1), 1);
        due("back(2)", x.back(2), 0);
    }

    private void failed() {
        DeputyTown x = new DeputyTown();
        due("failed ahead of a TOWN", x.failed(0), STATE);
        due("failed: OUTSIDE ahead of STATE", x.failed(3), OUTSIDE);
        Towns.townBy(x, RING_OF_THREE);
        due("failed: below", x.failed(-1), OUTSIDE);
        due("no READINGS: all sets", x.failed(0), 16);
        due("no READINGS: the least", x.failed(1), 0);
        due("no READINGS: in all", x.failed(2), 0);
        x.smash(1, 0, 29);
        x.reading(0, 2);
        due("0 by 2: sets", x.failed(0), 2);
        due("0 by 2: the least", x.failed(1), 3);
        due("0 by 2: in all", x.failed(2), 3);
        x.reading(3, NONE);
        due("that cannot be: sets", x.failed(0), 0);
        due("that cannot be: the least", x.failed(1), NONE);
        due("that cannot be: in all", x.failed(2), NONE);
        x.back(2);
        x.reading(3, 2);
        due("3 by 2: sets", x.failed(0), 2);
        due("3 by 2: the least", x.failed(1), 10);
        x.back(1);
        x.law(2);
        x.reading(0, 1);
        due("by LAW 2", x.failed(1), 5);
        DeputyTown y = Towns.in("e;t211;t211;t311;t211");
        y.law(1);
        y.reading(0, 3);
        due("the least of the fewest", y.failed(1), 5);
        due("sets", y.failed(0), 2);
        DeputyTown z = Towns.in("e;t211;t211;t111");
        z.law(1);
        z.reading(1, NONE);
        due("{0, 1}, {1, 2}, {0, 1, 2}", z.failed(0), 3);
        due("the least of two of two THINGS", z.failed(1), 3);
        due("THING 1 in all of them", z.failed(2), 2);
    }

    private void laws() {
        DeputyTown x = new DeputyTown();
        due("laws ahead of a TOWN", x.laws(), STATE);
        Towns.townBy(x, RING_OF_THREE);
        due("no READINGS", x.laws(), 7);
        x.smash(0, 0, 0);
        x.reading(0, 1);
        due("0 by 1", x.laws(), 3);
        x.back(1);
        x.reading(0, 2);
        due("0 by 2", x.laws(), 4);
        x.law(1);
        due("whatever the LAW is", x.laws(), 4);
        due("the LAW stays", x.many(3), 1);
        x.smash(1, 0, 0);
        due("0 by 2, 1 BROKEN", x.laws(), 7);
        x.reading(1, NONE);
        due("1 by none", x.laws(), 2);
        x.glue(2);
        due("no BREAKS", x.laws(), 0);
    }

    private void odds() {
        DeputyTown x = Towns.in(RING_OF_THREE);
        due("odds(0, 0)", x.odds(0, 0), 7);
        due("odds(0, 1)", x.odds(0, 1), 8);
        due("odds(3, 0)", x.odds(3, 0), 15);
        due("odds(3, 1)", x.odds(3, 1), 16);
        x.smash(0, 0, 29);
        due("in place of all BREAKS", x.odds(0, 0), 7);
        due("odds: no USE", x.odds(4, 0), LOST);
        due("odds: below", x.odds(-1, 0), LOST);
        due("odds: which above", x.odds(0, 2), LOST);
        due("odds: which below", x.odds(0, -1), LOST);
        due("odds ahead of a TOWN", new DeputyTown().odds(0, 0), LOST);
        DeputyTown y = Towns.in("e;t111;t011;t011");
        due("in least terms: upper", y.odds(0, 0), 3);
        due("in least terms: lower", y.odds(0, 1), 4);
        y.law(1);
        due("by LAW 1: upper", y.odds(2, 0), 5);
        due("by LAW 1: lower", y.odds(2, 1), 8);
    }

    // ---- 23 to 27

    private void sheet() {
        DeputyTown x = new DeputyTown();
        due("sheet: below", x.sheet(-1, 3, -1), UNKNOWN);
        due("sheet: above", x.sheet(4, 3, -1), UNKNOWN);
        due("sheet: LANE", x.sheet(0, 3, -1), OUTSIDE);
        due("sheet: LANE below", x.sheet(0, -1, -1), OUTSIDE);
        due("sheet: n", x.sheet(0, 0, 61), OUTSIDE);
        due("sheet: most n", x.sheet(0, 0, MAX), OUTSIDE);
        due("no FAULT", x.fault(), 0);
        due("sheet: SIZE", x.sheet(0, 0, -1), SIZE);
        due("its FAULT", x.fault(), 4);
        due("sheet: least SIZE", x.sheet(0, 0, MIN), SIZE);
        due("nothing yet", x.lose(0), 0);
        due("60 cells", x.sheet(0, 2, 60), 1);
        due("no FAULT", x.fault(), 0);
        x.put(0, 59, 7);
        due("a SIZE changes nothing", x.sheet(0, 0, -1), SIZE);
        due("the row stays", x.cell(0, 59, 2), 7);
        due("a new row", x.sheet(0, 2, 60), 1);
        due("0 at first", x.cell(0, 59, 2), 0);
        due("no cells", x.sheet(0, 1, 0), 1);
        due("none to put to", x.put(0, 0, 1), INDEX);
        due("it is something", x.lose(0), 1);
    }

    private void lose() {
        DeputyTown x = new DeputyTown();
        x.sheet(2, 0, 3);
        due("lose: below", x.lose(-1), UNKNOWN);
        due("lose: above", x.lose(4), UNKNOWN);
        due("lose another", x.lose(1), 0);
        due("lose it", x.lose(2), 1);
        due("lose it again", x.lose(2), 0);
        due("nothing of another LANE", x.cell(2, 0, 1), LOST);
        due("is NULL, no CAST", x.fault(), 1);
    }

    private void put() {
        DeputyTown x = new DeputyTown();
        due("put: above", x.put(4, 0, 0), UNKNOWN);
        due("put: below", x.put(-1, 0, 0), UNKNOWN);
        due("put: NULL", x.put(0, -1, 0), NULL);
        due("its FAULT", x.fault(), 1);
        int[] values = {127, 128, -128, -129, 255, 32767, 32768, -32769, 70001, MIN, MAX};
        int[] bytes = {127, -128, -128, 127, -1, -1, 0, -1, 113, 0, -1};
        int[] shorts = {127, 128, -128, -129, 255, 32767, -32768, 32767, 4465, 0, -1};
        for (int lane = 0; lane < 3; lane++) {
            x.sheet(lane, lane, 4);
            for (int k = 0; k < values.length; k++) {
                int want = lane == 0 ? bytes[k] : lane == 1 ? shorts[k] : values[k];
                due("put " + values[k], x.put(lane, 3, values[k]), 1);
                due("cell of " + values[k], x.cell(lane, 3, lane), want);
            }
            due("put: i above", x.put(lane, 4, 0), INDEX);
            due("its FAULT", x.fault(), 3);
            due("put: i below", x.put(lane, -1, 0), INDEX);
            due("put: most i", x.put(lane, MAX, 0), INDEX);
            due("put", x.put(lane, 0, 1), 1);
            due("no FAULT", x.fault(), 0);
            due("the cell beside it", x.cell(lane, 1, lane), 0);
        }
    }

    private void cell() {
        DeputyTown x = new DeputyTown();
        due("cell: below", x.cell(-1, 0, 0), LOST);
        due("cell: above", x.cell(4, 0, 0), LOST);
        due("no FAULT", x.fault(), 0);
        due("cell: NULL", x.cell(0, -1, 1), LOST);
        due("its FAULT", x.fault(), 1);
        due("cell: LANE above", x.cell(0, 0, 3), LOST);
        due("no FAULT", x.fault(), 0);
        due("cell: LANE below", x.cell(0, 0, -1), LOST);
        x.sheet(0, 1, 2);
        x.put(0, 1, -5);
        due("cell", x.cell(0, 1, 1), -5);
        due("cell: CAST ahead of INDEX", x.cell(0, 2, 0), LOST);
        due("its FAULT", x.fault(), 2);
        due("cell: INDEX", x.cell(0, 2, 1), LOST);
        due("its FAULT", x.fault(), 3);
        due("cell: INDEX below", x.cell(0, -1, 1), LOST);
        due("its FAULT", x.fault(), 3);
        due("cell", x.cell(0, 0, 1), 0);
        due("no FAULT", x.fault(), 0);
    }

    private void copy() {
        DeputyTown x = new DeputyTown();
        x.sheet(0, 2, 6);
        x.sheet(1, 2, 3);
        for (int i = 0; i < 6; i++) {
            x.put(0, i, 10 + i);
        }
        due("copy", x.copy(0, 2, 1, 1, 2), 2);
        dueCells("to another", x, 1, 0, 12, 13);
        due("copy: up", x.copy(0, 0, 0, 1, 4), 4);
        dueCells("up, as they were", x, 0, 10, 10, 11, 12, 13, 15);
        due("copy: down", x.copy(0, 2, 0, 0, 4), 4);
        dueCells("down, as they were", x, 0, 11, 12, 13, 15, 13, 15);
        due("copy none at the ends", x.copy(0, 6, 1, 3, 0), 0);
        due("copy all", x.copy(1, 0, 1, 0, 3), 3);
        dueCells("unchanged", x, 1, 0, 12, 13);
        due("no FAULT", x.fault(), 0);
    }

    private void dueCells(String what, DeputyTown x, int k, int... want) {
        for (int i = 0; i < want.length; i++) {
            due(what + ": cell " + i, x.cell(k, i, 2), want[i]);
        }
    }

    private void copyRefusals() {
        DeputyTown x = new DeputyTown();
        due("copy: no SHEET", x.copy(4, 0, 0, 0, 0), UNKNOWN);
        due("copy: no other", x.copy(0, 0, 4, 0, 0), UNKNOWN);
        due("copy: below", x.copy(0, 0, -1, 0, 0), UNKNOWN);
        due("no FAULT", x.fault(), 0);
        x.sheet(0, 2, 6);
        x.sheet(1, 1, 6);
        x.sheet(2, 2, 3);
        due("copy: the first NULL", x.copy(3, -1, 0, 0, 0), NULL);
        due("copy: the other NULL", x.copy(0, 0, 3, 0, -1), NULL);
        due("its FAULT", x.fault(), 1);
        due("copy: CAST", x.copy(0, -1, 1, 0, 0), CAST);
        due("its FAULT", x.fault(), 2);
        due("copy: n below", x.copy(0, 0, 2, 0, -1), INDEX);
        due("its FAULT", x.fault(), 3);
        due("copy: i below", x.copy(0, -1, 2, 0, 0), INDEX);
        due("copy: j below", x.copy(0, 0, 2, -1, 0), INDEX);
        due("copy: i beyond", x.copy(0, 7, 2, 0, 0), INDEX);
        due("copy: j beyond", x.copy(0, 0, 2, 4, 0), INDEX);
        due("copy: n beyond", x.copy(0, 5, 2, 0, 2), INDEX);
        due("copy: n beyond there", x.copy(0, 0, 2, 2, 2), INDEX);
        due("copy: most", x.copy(0, 1, 2, 1, MAX), INDEX);
        due("copy: least", x.copy(0, MIN, 2, MIN, MIN), INDEX);
        due("copy", x.copy(0, 0, 2, 0, 3), 3);
        due("no FAULT", x.fault(), 0);
    }

    // ---- 28 to 33

    private void tellAndTrace() {
        DeputyTown x = Towns.in(RING_OF_THREE);
        due("tell a THING", x.tell(0), 3);
        due("trace 1", x.trace(), 1);
        due("tell a SWORN one", x.tell(1), 103);
        due("trace 1 2 1", x.trace(), (1 * 31 + 2) * 31 + 1);
        due("tell a MAYOR", x.tell(2), 108);
        int trace = 1024;
        for (int body : new int[] {3, 2, 1, 1}) {
            trace = 31 * trace + body;
        }
        due("trace 1 2 1 3 2 1 1", x.trace(), trace);
        due("tell: above", x.tell(4), UNKNOWN);
        due("tell: below", x.tell(-1), UNKNOWN);
        due("trace stays", x.trace(), trace);
        for (int k = 0; k < 8; k++) {
            x.tell(3);
            trace = 31 * trace + 1;
        }
        due("trace wraps", x.trace(), trace);
        due("tell ahead of a TOWN", new DeputyTown().tell(0), UNKNOWN);
    }

    private void call() {
        DeputyTown x = Towns.in(RING_OF_THREE);
        due("call a THING", x.call(0), 0);
        due("trace 4", x.trace(), 4);
        due("call a SWORN one", x.call(1), 1);
        due("trace 4 4", x.trace(), 4 * 31 + 4);
        due("call a MAYOR", x.call(2), 20);
        due("trace 4 4 5", x.trace(), 128 * 31 + 5);
        due("call: above", x.call(4), UNKNOWN);
        due("call: below", x.call(-1), UNKNOWN);
        due("trace stays", x.trace(), 128 * 31 + 5);
        due("call ahead of a TOWN", new DeputyTown().call(0), UNKNOWN);
    }

    private void as() {
        DeputyTown x = Towns.in(RING_OF_THREE);
        for (int t = 0; t < 3; t++) {
            for (int kind = 0; kind < 3; kind++) {
                due("as(" + t + ", " + kind + ")", x.as(t, kind), kind <= t ? 1 : CAST);
                due("its FAULT", x.fault(), kind <= t ? 0 : 2);
            }
        }
        x.as(0, 1);
        due("as: kind above", x.as(0, 3), OUTSIDE);
        due("no FAULT", x.fault(), 0);
        due("as: kind below", x.as(0, -1), OUTSIDE);
        due("as: UNKNOWN ahead of OUTSIDE", x.as(4, 3), UNKNOWN);
        due("as: below", x.as(-1, 0), UNKNOWN);
    }

    private void fault() {
        DeputyTown x = Towns.in(RING_OF_THREE);
        x.as(0, 2);
        x.tell(0);
        x.ofThing(9, 0);
        x.law(9);
        x.lose(9);
        x.lose(0);
        x.odds(9, 0);
        x.frail(0, 0);
        x.many(0);
        x.trace();
        due("calls that name none leave it", x.fault(), 2);
        due("and so does it itself", x.fault(), 2);
        x.put(9, 0, 0);
        due("a refused put", x.fault(), 0);
        x.as(0, 2);
        x.copy(9, 0, 0, 0, 0);
        due("a refused copy", x.fault(), 0);
        x.as(0, 2);
        x.cell(9, 0, 0);
        due("a refused cell", x.fault(), 0);
        x.as(0, 2);
        x.sheet(9, 0, 0);
        due("a refused sheet", x.fault(), 0);
        x.as(0, 2);
        x.roster(9, 0, 0, 0);
        due("a refused roster", x.fault(), 0);
        x.as(0, 2);
        x.town(9, 0, 0, 0);
        due("a refused town", x.fault(), 0);
        x.as(0, 2);
        x.town(3, 0, 0, 21);
        due("a town that is taken", x.fault(), 0);
        x.as(0, 2);
        x.town(3, 0, 1, 20);
        due("a TEXT with a FIRST FAULT", x.fault(), 0);
    }

    private void many() {
        DeputyTown x = Towns.in(RING_OF_THREE);
        x.smash(0, 0, 0);
        x.smash(0, 0, 0);
        x.reading(0, 0);
        x.law(2);
        due("THINGS", x.many(0), 4);
        due("BREAKS", x.many(1), 2);
        due("READINGS", x.many(2), 1);
        due("the LAW", x.many(3), 2);
        due("many: above", x.many(4), OUTSIDE);
        due("many: below", x.many(-1), OUTSIDE);
        due("constant UNKNOWN", DeputyTown.UNKNOWN, UNKNOWN);
        due("constant OUTSIDE", DeputyTown.OUTSIDE, OUTSIDE);
        due("constant STATE", DeputyTown.STATE, STATE);
        due("constant FULL", DeputyTown.FULL, FULL);
        due("constant NONE", DeputyTown.NONE, NONE);
        due("constant LOST", DeputyTown.LOST, LOST);
    }
}
