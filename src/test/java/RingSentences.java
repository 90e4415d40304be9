/** Part 3: rings, faults, plots (promises 11 to 17). */
final class RingSentences {
    private final Sentences s;

    private RingSentences(Sentences s) {
        this.s = s;
    }

    static void all(Sentences s) {
        RingSentences part = new RingSentences(s);
        part.ring();
        part.first();
        part.frail();
        part.frailRefusals();
        part.plot();
        part.mend();
        part.mendRefusals();
        part.wave();
        part.roster();
        part.rosterRefusals();
    }

    // ---- promises 11 and 12

    private void ring() {
        s.test(11, "RING, as a set.", () -> {
            s.due("two of two", Towns.in(Towns.plain(2)).ring(), 3);
            s.due("all of eight", Towns.in(Towns.RING_OF_EIGHT).ring(), 255);
            s.due("the last two of eight", Towns.in("e;t711;t711;t711;t711;t711;t711;t711;t611").ring(), 192);
        });
        s.test(11, "RING: THINGS that come to themselves by DEPUTIES, as a set.", () -> {
            DeputyTown x = Towns.in(Towns.RING_OF_EIGHT);
            for (int t = 0; t < 7; t++) {
                x.depute(7, t);
                s.due("7 back to " + t, x.ring(), 256 - (1 << t));
            }
            s.due("two rings", Towns.in("e;t111;t011;t311;t411;t211;t211").ring(), 31);
            s.due("none of those that hang on a ring", Towns.in("e;t111;t211;t311;t211").ring(), 12);
        });
        s.test(11, "STATE: there is no TOWN", () -> s.due("ring()", new DeputyTown().ring(), Towns.STATE));
    }

    private void first() {
        s.test(12, "FIRST UNDONE: the HOUR (what 0; NONE: none is), the USE (1; NONE).", () -> {
            DeputyTown x = Towns.in(Towns.RING_OF_EIGHT);
            s.due("first(0): none is", x.first(0), Towns.NONE);
            s.due("first(1): none is", x.first(1), Towns.NONE);
            Towns.smashAll(x, 127, 0, 29);
            s.due("first(0): one that LASTS 1 for all", x.first(0), 1);
            s.due("first(1): one that LASTS 1 for all", x.first(1), 0);
            x.smash(7, 0, 0);
            s.due("first(0): at once", x.first(0), 0);
            s.due("first(1): at once", x.first(1), 0);
        });
        s.test(12, "FIRST UNDONE: the first HOUR in which a USE is UNDONE; the least of them.", () -> {
            for (int hour = 0; hour < Towns.HOURS; hour++) {
                DeputyTown x = Towns.in("e;t111;t211;t111;t411;t311");
                Towns.smashAll(x, 6, hour, hour);
                s.due("HOUR " + hour, x.first(0), hour);
                s.due("USE in HOUR " + hour, x.first(1), 1);
                Towns.smashAll(x, 24, Math.max(hour - 1, 0), hour);
                s.due("HOUR ahead of " + hour, x.first(0), Math.max(hour - 1, 0));
                s.due("USE in the HOUR ahead of " + hour, x.first(1), hour > 0 ? 3 : 1);
            }
            DeputyTown last = Towns.in("e;t111;t211;t311;t411;t511;t611;t711;t611");
            Towns.smashAll(last, 192, 29, 29);
            s.due("the last HOUR", last.first(0), 29);
            s.due("the last two USES", last.first(1), 6);
            DeputyTown tired = Towns.in("e;t111;t019");
            tired.smash(0, 20, 28);
            s.due("nobody is TIRED", tired.first(0), Towns.NONE);
            tired.smash(0, 29, 29);
            s.due("TIRED in the last HOUR", tired.first(0), 29);
            DeputyTown asked = Towns.in(Towns.plain(2));
            asked.smash(0, 0, 29);
            for (int hour = 0; hour < Towns.HOURS; hour++) {
                s.due("1 LASTS 1, HOUR " + hour, asked.by(0, hour), hour % 2 == 0 ? 1 : Towns.NONE);
                s.due("nobody is TIRED in HOUR 0, whatever was asked", asked.first(0), 1);
            }
        });
        s.test(12, "OUTSIDE", () -> {
            DeputyTown x = Towns.in(Towns.plain(2));
            for (int what : Towns.noneOf(2)) {
                s.due("first(" + what + ")", x.first(what), Towns.OUTSIDE);
            }
        });
        s.test(12, "STATE: there is no TOWN", () -> {
            s.due("first(0)", new DeputyTown().first(0), Towns.STATE);
            s.due("first(1)", new DeputyTown().first(1), Towns.STATE);
        });
    }

    // ---- promise 13

    private void frail() {
        s.test(13, "FRAIL for k: the set (what 0), how many USES are UNDONE then (1).", () -> {
            DeputyTown x = Towns.in("e;t111;t211;t311;t411;t311");
            int[] sets = {0, 1, 24, 28, 30, 31};
            int[] counts = {0, 0, 2, 3, 4, 5};
            for (int k = 0; k <= 5; k++) {
                s.due("frail(" + k + ", 0)", x.frail(k, 0), sets[k]);
                s.due("frail(" + k + ", 1)", x.frail(k, 1), counts[k]);
            }
        });
        s.test(13, "FRAIL for k: the THINGS of which so many (k), all BROKEN in one HOUR (HOUR 0; in place of all BREAKS), leave the most USES UNDONE: as a set: of several the least.", () -> {
            DeputyTown x = Towns.in(Towns.RING_OF_EIGHT);
            Towns.smashAll(x, 254, 0, 29);
            for (int k = 0; k < 8; k++) {
                s.due("the least of " + k, x.frail(k, 0), (1 << k) - 1);
                s.due("by so few none", x.frail(k, 1), 0);
            }
            s.due("all", x.frail(8, 0), 255);
            s.due("all are UNDONE", x.frail(8, 1), 8);
            DeputyTown rings = Towns.in("e;t111;t211;t111;t411;t311");
            s.due("of two rings the least set", rings.frail(2, 0), 6);
            s.due("two with one that hangs on them", rings.frail(3, 0), 7);
            s.due("it is UNDONE, too", rings.frail(3, 1), 3);
            DeputyTown three = Towns.in("e;t111;t211;t011");
            s.due("by LAW 0 no two", three.frail(2, 1), 0);
            three.law(1);
            s.due("by LAW 1 any two: the least", three.frail(2, 0), 3);
            s.due("by LAW 1 one is UNDONE", three.frail(2, 1), 1);
        });
        s.test(13, "STATE: there is no TOWN (ahead of OUTSIDE)", () -> {
            DeputyTown x = new DeputyTown();
            s.due("frail(0, 0)", x.frail(0, 0), Towns.STATE);
            s.due("frail(1, 0)", x.frail(1, 0), Towns.STATE);
            s.due("frail(-1, 0)", x.frail(-1, 0), Towns.STATE);
            s.due("frail(9, 9)", x.frail(9, 9), Towns.STATE);
            s.due("frail(0, 2)", x.frail(0, 2), Towns.STATE);
        });
    }

    private void frailRefusals() {
        s.test(13, "OUTSIDE: k (0 .. how many THINGS there are)", () -> {
            for (int things = 2; things <= 8; things++) {
                DeputyTown x = Towns.in(Towns.plain(things));
                for (int k : Towns.noneOf(things + 1)) {
                    s.due("frail(" + k + ", 0) of " + things, x.frail(k, 0), Towns.OUTSIDE);
                    s.due("frail(" + k + ", 1) of " + things, x.frail(k, 1), Towns.OUTSIDE);
                }
                s.due("none", x.frail(0, 0), 0);
                s.due("none: UNDONE", x.frail(0, 1), 0);
                s.due("all", x.frail(things, 0), (1 << things) - 1);
                s.due("all: UNDONE", x.frail(things, 1), things);
            }
        });
        s.test(13, "(0 .. how many THINGS there are), what", () -> {
            DeputyTown x = Towns.in(Towns.plain(3));
            for (int what : Towns.noneOf(2)) {
                s.due("frail(1, " + what + ")", x.frail(1, what), Towns.OUTSIDE);
                s.due("frail(4, " + what + ")", x.frail(4, what), Towns.OUTSIDE);
            }
        });
    }

    // ---- promise 14

    private void plot() {
        s.test(14, "PLOT, as a set;", () -> {
            DeputyTown x = Towns.in("e;t111;t211;t111;t411;t311");
            int[] want = {7, 6, 6, 24, 24};
            for (int use = 0; use < want.length; use++) {
                s.due("plot(" + use + ")", x.plot(use), want[use]);
            }
        });
        s.test(14, "PLOT on a USE: the fewest THINGS to be BROKEN in HOUR 0 (in place of all BREAKS) so that it is UNDONE: as a set: of several the least", () -> {
            DeputyTown x = Towns.in(Towns.RING_OF_EIGHT);
            Towns.smashAll(x, 255, 0, 29);
            s.due("all must be BROKEN", x.plot(3), 255);
            DeputyTown few = Towns.in("e;t111;t411;t311;t211;t211");
            few.law(1);
            s.due("fewer THINGS ahead of a lesser set", few.plot(3), 12);
            DeputyTown tie = Towns.in("e;t211;t211;t111;t111");
            tie.law(1);
            // USE 1 has 2 alone in its row: it is UNDONE if 2 is BROKEN, or if USE 0 has taken 2.
            s.due("of {0, 1} and {1, 2} the least", tie.plot(1), 3);
            s.due("for USE 0 no lesser USE takes one", tie.plot(0), 7);
            s.due("of {1, 3} and {2, 3} the least", tie.plot(3), 10);
        });
        s.test(14, "NONE.", () -> {
            // By the rules no USE is safe: if all THINGS are BROKEN, it is UNDONE.
            for (int things = 2; things <= 8; things++) {
                for (int law = 0; law < 3; law++) {
                    DeputyTown x = Towns.in(Towns.plain(things));
                    x.law(law);
                    s.due("a ring of two, LAW " + law, x.plot(0), 3);
                    s.due("the other one of it, LAW " + law, x.plot(1), 3);
                }
            }
        });
        s.test(14, "NONE: by none", () -> {
            for (int law = 0; law < 3; law++) {
                DeputyTown x = Towns.in(Towns.RING_OF_EIGHT);
                x.law(law);
                for (int use = 0; use < 8; use++) {
                    s.due("by all, LAW " + law, x.plot(use) & 1 << use, 1 << use);
                }
            }
        });
        s.test(14, "UNKNOWN", () -> {
            for (int things = 2; things <= 8; things++) {
                DeputyTown x = Towns.in(Towns.plain(things));
                for (int use : Towns.noneOf(things)) {
                    s.due("plot(" + use + ") of " + things, x.plot(use), Towns.UNKNOWN);
                }
            }
            s.due("without a TOWN", new DeputyTown().plot(0), Towns.UNKNOWN);
        });
    }

    // ---- promise 15

    private void mend() {
        s.test(15, "MEND: 10 times the THING, and its DEPUTY (what 0; NONE: by none there are fewer), how many USES are UNDONE then at most (1; as now).", () -> {
            DeputyTown last = Towns.in("e;t111;t211;t311;t411;t511;t611;t711;t611");
            s.due("a ring of the last two: now", last.frail(2, 1), 2);
            s.due("THING 6 gets DEPUTY 0", last.mend(0), 60);
            s.due("then at most", last.mend(1), 0);
            DeputyTown safe = Towns.in(Towns.RING_OF_EIGHT);
            s.due("none now: by none there are fewer", safe.mend(0), Towns.NONE);
            s.due("none: as now", safe.mend(1), 0);
            DeputyTown two = Towns.in(Towns.plain(2));
            s.due("two THINGS: no other DEPUTY", two.mend(0), Towns.NONE);
            s.due("two THINGS: as now", two.mend(1), 2);
            DeputyTown rings = Towns.in("e;t111;t011;t311;t211");
            s.due("two rings of two: the other one stays", rings.mend(0), Towns.NONE);
            s.due("two rings of two: as now", rings.mend(1), 2);
        });
        s.test(15, "MEND: the one DEPUTY of one THING to be changed so that, FRAIL for k = 2, the fewest USES are UNDONE, fewer than now: of several the least THING, then DEPUTY.", () -> {
            DeputyTown three = Towns.in("e;t111;t011;t011");
            s.due("a ring of two and one that hangs on it: now", three.frail(2, 1), 2);
            s.due("0 -> 2 -> 0 is no better, 1 -> 2 -> 0 -> 1 is", three.mend(0), 12);
            s.due("UNDONE then", three.mend(1), 0);
            three.depute(1, 2);
            s.due("once it is changed, by none there are fewer", three.mend(0), Towns.NONE);
            s.due("once it is changed, as now", three.mend(1), 0);
            DeputyTown zero = Towns.in("e;t111;t011;t011;t111");
            s.due("0 -> 3 -> 1 -> 0, the least THING", zero.mend(0), 3);
            DeputyTown tie = Towns.in("e;t211;t211;t111;t111");
            s.due("the least THING, then DEPUTY", tie.mend(0), 10);
            dueDeputiesStay(tie, 2, 2, 1, 1);
            DeputyTown ring = Towns.in("e;t111;t011;t011;t211");
            ring.law(1);
            s.due("LAW 1: now", ring.frail(2, 1), 2);
            s.due("a ring of all four leaves fewer UNDONE than 0 -> 3", ring.mend(0), 13);
            s.due("UNDONE then", ring.mend(1), 0);
            ring.depute(0, 3);
            s.due("by 0 -> 3: now", ring.frail(2, 1), 1);
            Towns.smashAll(ring, 15, 0, 29);
            s.due("in place of all BREAKS", ring.frail(2, 1), 1);
            s.due("in place of all BREAKS: mend", ring.mend(1), 0);
        });
    }

    /** A trial of a change is no change. */
    private void dueDeputiesStay(DeputyTown x, int... deputies) {
        for (int t = 0; t < deputies.length; t++) {
            s.due("the DEPUTY of " + t + " stays", x.ofThing(t, 1), deputies[t]);
        }
    }

    private void mendRefusals() {
        s.test(15, "OUTSIDE", () -> {
            DeputyTown x = Towns.in(Towns.plain(3));
            for (int what : Towns.noneOf(2)) {
                s.due("mend(" + what + ")", x.mend(what), Towns.OUTSIDE);
            }
        });
        s.test(15, "STATE: there is no TOWN", () -> {
            s.due("mend(0)", new DeputyTown().mend(0), Towns.STATE);
            s.due("mend(1)", new DeputyTown().mend(1), Towns.STATE);
        });
    }

    // ---- promise 16

    private void wave() {
        s.test(16, "WAVE, and 1000.", () -> {
            DeputyTown x = Towns.in(Towns.plain(2));
            s.due("a fault of one", x.wave(0), 1090);
            x.smash(0, 0, 0);
            s.due("no wave", x.wave(0), 1000);
            s.due("all", x.wave(1), 1110);
            DeputyTown better = Towns.in("e;t111;t211;m191");
            better.smash(0, 0, 0);
            s.due("more SERVES than ahead of it", better.wave(1), 1000 + 210 - 99 - 99 - 100);
        });
        s.test(16, "WAVE of a THING: how much less SERVES are in HOUR 0, if it is BROKEN then, too.", () -> {
            DeputyTown x = Towns.in(Towns.RING_OF_EIGHT);
            for (int t = 0; t < 7; t++) {
                // All that are BROKEN hang on the next one, which SERVES each of them for 10.
                s.due("0 .. " + t + " BROKEN, then", x.wave(t), 1000 + 90);
                x.smash(t, 0, 0);
                s.due("BROKEN already: " + t, x.wave(t), 1000);
            }
            s.due("the last one", x.wave(7), 1000 + 170);
            DeputyTown later = Towns.in(Towns.plain(2));
            later.smash(1, 1, 29);
            s.due("BREAKS of other HOURS are none", later.wave(0), 1090);
            later.smash(1, 0, 0);
            s.due("HOUR 0", later.wave(0), 1110);
            s.due("it stays WHOLE", later.by(0, 0), 0);
        });
        s.test(16, "UNKNOWN", () -> {
            for (int things = 2; things <= 8; things++) {
                DeputyTown x = Towns.in(Towns.plain(things));
                for (int t : Towns.noneOf(things)) {
                    s.due("wave(" + t + ") of " + things, x.wave(t), Towns.UNKNOWN);
                }
            }
            s.due("without a TOWN", new DeputyTown().wave(0), Towns.UNKNOWN);
        });
    }

    // ---- promise 17

    private static void cells(DeputyTown x, int sheet, int lane, int... cells) {
        x.sheet(sheet, lane, cells.length);
        for (int i = 0; i < cells.length; i++) {
            x.put(sheet, i, cells[i]);
        }
    }

    private void roster() {
        s.test(17, "A ROSTER of n such cells, THINGS: USE k in HOUR 0 by the k-th of them (n as many as there are THINGS): the first that is not as it is", () -> {
            for (int lane = 0; lane < Towns.LANES; lane++) {
                DeputyTown x = Towns.in(Towns.RING_OF_EIGHT);
                for (int use = 7; use >= 0; use--) {
                    cells(x, 0, lane, 9, 0, 1, 2, 3, 4, 5, 6, 7, 9);
                    x.put(0, use + 1, (use + 1) % 8);
                    s.due("USE " + use, x.roster(0, lane, 1, 8), use);
                    x.put(0, 8, 0);
                    s.due("USE " + use + ", and 7", x.roster(0, lane, 1, 8), use);
                    x.put(0, use + 1, Towns.NONE);
                    s.due("USE " + use + " by none", x.roster(0, lane, 1, 8), use);
                }
            }
        });
        s.test(17, "NONE: all are so", () -> {
            DeputyTown x = Towns.in(Towns.plain(3));
            cells(x, 0, 0, 0, 1, 2);
            s.due("all WHOLE", x.roster(0, 0, 0, 3), Towns.NONE);
            Towns.smashAll(x, 1, 0, 0);
            s.due("0 is BROKEN", x.roster(0, 0, 0, 3), 0);
            cells(x, 0, 0, 1, 1, 2);
            s.due("0 by 1", x.roster(0, 0, 0, 3), Towns.NONE);
            Towns.smashAll(x, 6, 0, 0);
            cells(x, 0, 0, Towns.NONE, Towns.NONE, Towns.NONE);
            s.due("all UNDONE", x.roster(0, 0, 0, 3), Towns.NONE);
            x.glue(3);
            Towns.smashAll(x, 7, 1, 29);
            cells(x, 0, 0, 0, 1, 2);
            s.due("BREAKS of other HOURS", x.roster(0, 0, 0, 3), Towns.NONE);
        });
        s.test(17, "OUTSIDE: n is not how many THINGS there are", () -> {
            for (int things = 2; things <= 8; things++) {
                DeputyTown x = Towns.in(Towns.plain(things));
                x.sheet(0, 2, 60);
                for (int n = 0; n <= 60; n++) {
                    long want = n == things ? 1 : Towns.OUTSIDE;
                    s.due(n + " of " + things, x.roster(0, 2, 0, n), want);
                }
                s.due("no FAULT", x.fault(), 0);
            }
        });
        s.test(17, "UNKNOWN: a cell is no THING, and not NONE.", () -> {
            for (int things = 2; things <= 8; things++) {
                DeputyTown x = Towns.in(Towns.plain(things));
                x.sheet(0, 2, things);
                for (int who : Towns.noneOf(things)) {
                    x.put(0, things - 1, who);
                    long want = who == Towns.NONE ? 1 : Towns.UNKNOWN;
                    s.due("the last cell " + who, x.roster(0, 2, 0, things), want);
                    x.put(0, things - 1, 0);
                    x.put(0, 0, who);
                    s.due("the first cell " + who, x.roster(0, 2, 0, things), who == Towns.NONE ? 0 : Towns.UNKNOWN);
                    x.put(0, 0, 0);
                }
                s.due("no FAULT", x.fault(), 0);
            }
        });
    }

    private void rosterRefusals() {
        s.test(17, "UNKNOWN: SHEET", () -> {
            DeputyTown x = Towns.in(Towns.plain(2));
            for (int sheet : Towns.noneOf(Towns.SHEETS)) {
                s.due("roster(" + sheet + ", 0, 0, 2)", x.roster(sheet, 0, 0, 2), Towns.UNKNOWN);
            }
        });
        s.test(17, "OUTSIDE: lane", () -> {
            DeputyTown x = Towns.in(Towns.plain(2));
            for (int lane : Towns.noneOf(Towns.LANES)) {
                s.due("roster(3, " + lane + ", 0, 2)", x.roster(3, lane, 0, 2), Towns.OUTSIDE);
            }
        });
        s.test(17, "STATE: there is no TOWN", () -> {
            DeputyTown x = new DeputyTown();
            s.due("ahead of NULL", x.roster(0, 0, 0, 0), Towns.STATE);
            x.sheet(0, 1, 2);
            s.due("ahead of CAST", x.roster(0, 0, 0, 0), Towns.STATE);
            s.due("ahead of SIZE", x.roster(0, 1, 0, -1), Towns.STATE);
            s.due("ahead of INDEX", x.roster(0, 1, -1, 0), Towns.STATE);
            s.due("ahead of n", x.roster(0, 1, 0, 0), Towns.STATE);
            s.due("no FAULT", x.fault(), 0);
        });
        s.test(17, "CAST", () -> {
            for (int lane = 0; lane < Towns.LANES; lane++) {
                DeputyTown x = Towns.in(Towns.plain(2));
                x.sheet(0, lane, 2);
                for (int as = 0; as < Towns.LANES; as++) {
                    s.due("LANE " + lane + " as " + as, x.roster(0, as, 0, 2), as == lane ? 1 : Towns.CAST);
                    s.due("its FAULT", x.fault(), as == lane ? 0 : 2);
                    s.due("ahead of SIZE", x.roster(0, as, -1, -1), as == lane ? Towns.SIZE : Towns.CAST);
                }
            }
        });
        s.test(17, "NULL", () -> {
            DeputyTown x = Towns.in(Towns.plain(2));
            s.due("nothing", x.roster(0, 0, 0, 2), Towns.NULL);
            s.due("its FAULT", x.fault(), 1);
            s.due("ahead of SIZE", x.roster(0, 0, 0, -1), Towns.NULL);
            s.due("ahead of INDEX", x.roster(0, 0, -1, 2), Towns.NULL);
            s.due("nothing is no CAST", x.roster(0, 2, 0, 2), Towns.NULL);
        });
        s.test(17, "SIZE", () -> {
            DeputyTown x = Towns.in(Towns.plain(2));
            x.sheet(0, 2, 2);
            s.due("n -1", x.roster(0, 2, 0, -1), Towns.SIZE);
            s.due("its FAULT", x.fault(), 4);
            s.due("n least", x.roster(0, 2, 0, Towns.MIN), Towns.SIZE);
            s.due("ahead of INDEX", x.roster(0, 2, 3, -1), Towns.SIZE);
            s.due("n 0", x.roster(0, 2, 0, 0), Towns.OUTSIDE);
        });
        s.test(17, "INDEX", () -> {
            DeputyTown x = Towns.in(Towns.plain(2));
            x.sheet(0, 2, 4);
            s.due("the last ones", x.roster(0, 2, 2, 2), 1);
            s.due("one too far", x.roster(0, 2, 3, 2), Towns.INDEX);
            s.due("its FAULT", x.fault(), 3);
            s.due("i below", x.roster(0, 2, -1, 2), Towns.INDEX);
            s.due("ahead of n", x.roster(0, 2, 0, 5), Towns.INDEX);
            s.due("i beyond, none taken", x.roster(0, 2, 5, 0), Towns.INDEX);
            s.due("i at the end, none taken", x.roster(0, 2, 4, 0), Towns.OUTSIDE);
            s.due("a sum that wraps", x.roster(0, 2, 4, Towns.MAX), Towns.INDEX);
        });
    }
}
