/** Part 2: who stands in for whom, hour by hour (promises 8 to 10). */
final class HourSentences {
    private final Sentences s;

    private HourSentences(Sentences s) {
        this.s = s;
    }

    static void all(Sentences s) {
        HourSentences part = new HourSentences(s);
        part.by();
        part.rows();
        part.laws();
        part.tired();
        part.undone();
        part.serves();
        part.refusals();
    }

    private void dueRow(String what, DeputyTown x, int hour, int... want) {
        for (int use = 0; use < want.length; use++) {
            s.due(what + ": by(" + use + ", " + hour + ")", x.by(use, hour), want[use]);
        }
    }

    private void by() {
        s.test(8, "By which THING a USE is SERVED in an HOUR", () -> {
            DeputyTown x = Towns.in(Towns.RING_OF_EIGHT);
            x.smash(7, 3, 3);
            dueRow("7 BROKEN", x, 3, 0, 1, 2, 3, 4, 5, 6, 0);
            dueRow("the HOUR ahead", x, 2, 0, 1, 2, 3, 4, 5, 6, 7);
            dueRow("the HOUR behind", x, 4, 0, 1, 2, 3, 4, 5, 6, 7);
        });
        s.test(8, "NONE: it is UNDONE", () -> {
            DeputyTown x = Towns.in(Towns.plain(2));
            Towns.smashAll(x, 3, 29, 29);
            dueRow("both BROKEN", x, 29, Towns.NONE, Towns.NONE);
            dueRow("none BROKEN", x, 28, 0, 1);
        });
        s.test(8, "NONE is -9.", () -> {
            s.due("the constant", DeputyTown.NONE, -9);
            DeputyTown x = Towns.in(Towns.plain(2));
            s.due("first(0)", x.first(0), -9);
            Towns.smashAll(x, 3, 0, 0);
            s.due("by(0, 0)", x.by(0, 0), -9);
        });
        s.test(8, "HOURS 0 .. 29.", () -> {
            DeputyTown x = Towns.in(Towns.plain(2));
            Towns.smashAll(x, 1, 0, 0);
            Towns.smashAll(x, 1, 29, 29);
            s.due("HOUR -1", x.by(0, -1), Towns.OUTSIDE);
            s.due("HOUR 0", x.by(0, 0), 1);
            s.due("HOUR 1", x.by(0, 1), 0);
            s.due("HOUR 28", x.by(0, 28), 0);
            s.due("HOUR 29", x.by(0, 29), 1);
            s.due("HOUR 30", x.by(0, 30), Towns.OUTSIDE);
        });
        s.test(8, "The USE of a THING is SERVED by itself, if it is WHOLE (not BROKEN then).", () -> {
            for (int law = 0; law < 3; law++) {
                DeputyTown x = Towns.in("e;t111;m011;t011");
                x.law(law);
                x.smash(0, 2, 3);
                s.due("WHOLE still", x.by(0, 1), 0);
                s.due("BROKEN", x.by(0, 2), 1);
                s.due("WHOLE again", x.by(0, 4), 0);
                dueRow("who stands in for another SERVES its own USE, too", x, 2, 1, 1, 2);
            }
        });
    }

    private void rows() {
        s.test(8, "Else somebody stands in for it: its row is its DEPUTY, that one's DEPUTY, and so on, till one would come that is in it already, or the THING itself.", () -> {
            DeputyTown ring = Towns.in(Towns.RING_OF_EIGHT);
            for (int t = 0; t < 7; t++) {
                ring.smash(t, 0, 0);
                s.due("0 .. " + t + " BROKEN", ring.by(0, 0), t + 1);
            }
            s.due("the row of 6 is 7 alone, then 0, who is BROKEN", ring.by(6, 0), 7);
            ring.smash(7, 0, 0);
            dueRow("all BROKEN", ring, 0, -9, -9, -9, -9, -9, -9, -9, -9);
            DeputyTown hangs = Towns.in("e;t111;t211;t311;t211;t011");
            Towns.smashAll(hangs, 14, 0, 0);
            dueRow("1, 2, 3 BROKEN: no row of theirs leaves their ring", hangs, 0, 0, -9, -9, -9, 4);
            Towns.smashAll(hangs, 16, 0, 0);
            s.due("0 is the first in the row of 4", hangs.by(4, 0), 0);
            Towns.smashAll(hangs, 1, 0, 0);
            dueRow("all BROKEN", hangs, 0, -9, -9, -9, -9, -9);
            hangs.glue(3);
            hangs.smash(0, 0, 0);
            s.due("the last one of the row of 0", hangs.by(0, 0), 3);
        });
        s.test(8, "Of the row those MAY who are WHOLE and not TIRED for that USE", () -> {
            for (int law = 0; law < 3; law++) {
                DeputyTown x = Towns.in("e;t111;t211;t011");
                x.law(law);
                x.smash(0, 0, 4);
                s.due("1 may", x.by(0, 0), 1);
                s.due("1 is TIRED", x.by(0, 1), 2);
                s.due("2 is TIRED", x.by(0, 2), 1);
                x.smash(1, 2, 2);
                s.due("1 is BROKEN, 2 TIRED", x.by(0, 2), Towns.NONE);
                s.due("none is TIRED behind it", x.by(0, 3), 1);
                x.smash(2, 1, 1);
                s.due("1 is TIRED, 2 BROKEN", x.by(0, 1), Towns.NONE);
            }
        });
    }

    private void laws() {
        s.test(8, "by LAW 0 the first of these stands in", () -> {
            DeputyTown x = Towns.in("e;t111;t211;m391;m091");
            Towns.smashAll(x, 1, 0, 0);
            dueRow("the DEPUTY", x, 0, 1, 1, 2, 3);
            Towns.smashAll(x, 2, 0, 0);
            dueRow("one stands in for two", x, 0, 2, 2, 2, 3);
            Towns.smashAll(x, 4, 0, 0);
            dueRow("one stands in for three", x, 0, 3, 3, 3, 3);
        });
        s.test(8, "by LAW 1 the first of these that stands in for no USE of a lesser number in that HOUR (nobody, if all of these do)", () -> {
            DeputyTown x = Towns.in("e;t311;t311;t311;t411;t011");
            x.law(1);
            Towns.smashAll(x, 7, 0, 0);
            dueRow("3, then 4, then nobody", x, 0, 3, 4, -9, 3, 4);
            x.glue(1);
            Towns.smashAll(x, 8, 0, 0);
            // The row of 3 is 4, 0: USE 0 has taken 4, USE 1 is left with nobody, and so is USE 3.
            dueRow("all take 4", x, 0, 4, -9, 2, -9, 4);
            DeputyTown lesser = Towns.in("e;t111;t211;t111");
            lesser.law(1);
            Towns.smashAll(lesser, 5, 0, 0);
            dueRow("only the lesser USE goes ahead", lesser, 0, 1, 1, -9);
            DeputyTown own = Towns.in("e;t111;t211;t011");
            own.law(1);
            Towns.smashAll(own, 4, 0, 0);
            dueRow("who SERVES its own USE is free", own, 0, 0, 1, 0);
            DeputyTown then = Towns.in("e;t212;t212;t012");
            then.law(1);
            then.smash(0, 0, 0);
            then.smash(1, 1, 1);
            dueRow("who stood in the HOUR ahead is free", then, 1, 0, 2, 2);
            DeputyTown tired = Towns.in("e;t211;t211;t011");
            tired.law(1);
            tired.smash(0, 0, 1);
            tired.smash(1, 1, 1);
            dueRow("who is TIRED for USE 0 is free for USE 1", tired, 1, -9, 2, 2);
        });
        s.test(8, "by LAW 2 the most GOOD (of several the first in the row)", () -> {
            DeputyTown x = Towns.in("e;t113;s243;t353;m413;t511;t021");
            x.law(2);
            Towns.smashAll(x, 1, 0, 0);
            s.due("of GOOD 5, 5, 4, 1, 2 the first", x.by(0, 0), 1);
            Towns.smashAll(x, 2, 0, 0);
            s.due("of GOOD 5, 4, 1, 2 the first", x.by(0, 0), 2);
            Towns.smashAll(x, 4, 0, 0);
            s.due("of GOOD 4, 1, 2 the first", x.by(0, 0), 3);
            Towns.smashAll(x, 8, 0, 0);
            s.due("of GOOD 1, 2 the last", x.by(0, 0), 5);
            Towns.smashAll(x, 32, 0, 0);
            s.due("of GOOD 1 that one", x.by(0, 0), 4);
            DeputyTown kinds = Towns.in("e;t111;t291;s391;m041");
            kinds.law(2);
            Towns.smashAll(kinds, 1, 0, 0);
            s.due("by GOOD, not by FIT: a SWORN one of 10 ahead of a MAYOR of 10", kinds.by(0, 0), 2);
            Towns.smashAll(kinds, 4, 0, 0);
            s.due("a MAYOR of 10 ahead of a THING of 9", kinds.by(0, 0), 3);
            DeputyTown both = Towns.in("e;t211;t211;t191");
            both.law(2);
            Towns.smashAll(both, 3, 0, 0);
            dueRow("one stands in for two", both, 0, 2, 2, 2);
        });
    }

    private void tired() {
        s.test(8, "TIRED for a USE in an HOUR: who stood in for it in each of so many HOURS just ahead as it LASTS.", () -> {
            for (int lasts = 1; lasts <= 9; lasts++) {
                DeputyTown x = Towns.in("e;t119;t01" + lasts);
                x.smash(0, 0, 29);
                for (int hour = 0; hour < Towns.HOURS; hour++) {
                    boolean isTired = hour % (lasts + 1) == lasts;
                    s.due("LASTS " + lasts + ", HOUR " + hour, x.by(0, hour), isTired ? Towns.NONE : 1);
                }
            }
            dueAnHourOfRest();
            DeputyTown another = Towns.in("e;t111;t213;t019");
            another.smash(0, 0, 9);
            another.smash(1, 2, 2);
            int[] want = {1, 1, 2, 1, 1, 1, 2, 1};
            for (int hour = 0; hour < want.length; hour++) {
                s.due("another one between them, HOUR " + hour, another.by(0, hour), want[hour]);
            }
            DeputyTown use = Towns.in("e;t211;t211;t012");
            use.smash(0, 0, 2);
            use.smash(1, 1, 2);
            dueRow("for one USE, not for another", use, 2, -9, 2, 2);
            DeputyTown own = Towns.in("e;t112;t012");
            own.smash(0, 2, 4);
            dueRow("who SERVED its own USE is not TIRED", own, 3, 1, 1);
            dueRow("but who stood in is", own, 4, -9, 1);
        });
    }

    private void dueAnHourOfRest() {
        for (int rest = 0; rest < 4; rest++) {
            DeputyTown x = Towns.in("e;t111;t013");
            if (rest > 0) {
                x.smash(0, 0, rest - 1);
            }
            x.smash(0, rest + 1, 29);
            for (int hour = rest + 1; hour < rest + 9; hour++) {
                boolean isTired = (hour - rest) % 4 == 0;
                s.due("rest in HOUR " + rest + ", HOUR " + hour, x.by(0, hour), isTired ? Towns.NONE : 1);
            }
        }
    }

    // ---- promises 9 and 10

    private void undone() {
        s.test(9, "USES that are UNDONE in an HOUR, as a set.", () -> {
            DeputyTown x = Towns.in("e;t111;t011;t311;t211");
            s.due("none", x.undone(5), 0);
            Towns.smashAll(x, 3, 5, 5);
            s.due("0 and 1", x.undone(5), 3);
            Towns.smashAll(x, 12, 5, 6);
            s.due("all", x.undone(5), 15);
            s.due("2 and 3", x.undone(6), 12);
            s.due("the HOUR ahead", x.undone(4), 0);
        });
        s.test(9, "Sets are told as bits (bit k for number k).", () -> {
            for (int k = 0; k < 8; k++) {
                // A ring of two, on which all others hang.
                DeputyTown x = Towns.in(Towns.plain(8));
                int deputy = k == 0 ? 1 : 0;
                x.depute(deputy, k);
                Towns.smashAll(x, 1 << k | 1 << deputy, 9, 9);
                s.due("UNDONE " + k + " and " + deputy, x.undone(9), 1 << k | 1 << deputy);
                s.due("RING of " + k + " and " + deputy, x.ring(), 1 << k | 1 << deputy);
            }
        });
        s.test(9, "If there is none, the USE is UNDONE.", () -> {
            DeputyTown x = Towns.in(Towns.plain(2));
            x.smash(0, 0, 1);
            s.due("one is there", x.undone(0), 0);
            s.due("it is TIRED", x.undone(1), 1);
            s.due("WHOLE again", x.undone(2), 0);
            x.smash(1, 0, 0);
            s.due("it is BROKEN", x.undone(0), 3);
        });
    }

    private void serves() {
        s.test(10, "SERVES in an HOUR.", () -> {
            DeputyTown x = Towns.in("e;t132;s231;m042;t123");
            x.smash(0, 1, 3);
            int[] want = {400, 340, 399, 340, 400};
            for (int hour = 0; hour < want.length; hour++) {
                s.due("serves(" + hour + ")", x.serves(hour), want[hour]);
            }
            s.due("the last HOUR", x.serves(29), 400);
        });
        s.test(10, "SERVES in an HOUR: 100 for each USE that is SERVED by its THING, 10 times GOOD (the product 99 at most) for one by another; 0 for one that is UNDONE.", () -> {
            for (int things = 2; things <= 8; things++) {
                DeputyTown x = Towns.in(Towns.plain(things));
                s.due(things + " THINGS", x.serves(0), 100 * things);
                Towns.smashAll(x, (1 << things) - 1, 0, 0);
                s.due("all UNDONE", x.serves(0), 0);
            }
            for (int fit = 1; fit <= 9; fit++) {
                dueStandsIn("t", fit, 10 * fit);
                dueStandsIn("s", fit, Math.min(99, 10 * (fit + 1)));
                dueStandsIn("m", fit, Math.min(99, 20 * (fit + 1)));
            }
        });
    }

    private void dueStandsIn(String letter, int fit, int points) {
        DeputyTown x = Towns.in("e;t111;" + letter + "0" + fit + "1");
        x.smash(0, 0, 0);
        s.due("by " + letter + " of FIT " + fit, x.serves(0), 100 + points);
    }

    private void refusals() {
        s.test(8, "UNKNOWN", () -> {
            for (int things = 2; things <= 8; things++) {
                DeputyTown x = Towns.in(Towns.plain(things));
                for (int use : Towns.noneOf(things)) {
                    s.due("by(" + use + ", 0) of " + things, x.by(use, 0), Towns.UNKNOWN);
                }
            }
            s.due("without a TOWN", new DeputyTown().by(0, 0), Towns.UNKNOWN);
        });
        s.test(8, "OUTSIDE.", () -> {
            DeputyTown x = Towns.in(Towns.plain(2));
            for (int hour : Towns.noneOf(Towns.HOURS)) {
                s.due("by(0, " + hour + ")", x.by(0, hour), Towns.OUTSIDE);
            }
        });
        s.test(9, "OUTSIDE", () -> {
            DeputyTown x = Towns.in(Towns.plain(2));
            for (int hour : Towns.noneOf(Towns.HOURS)) {
                s.due("undone(" + hour + ")", x.undone(hour), Towns.OUTSIDE);
            }
            s.due("undone(0)", x.undone(0), 0);
            s.due("undone(29)", x.undone(29), 0);
        });
        s.test(9, "STATE: there is no TOWN", () -> {
            s.due("undone(0)", new DeputyTown().undone(0), Towns.STATE);
            s.due("undone(29)", new DeputyTown().undone(29), Towns.STATE);
        });
        s.test(10, "OUTSIDE", () -> {
            DeputyTown x = Towns.in(Towns.plain(2));
            for (int hour : Towns.noneOf(Towns.HOURS)) {
                s.due("serves(" + hour + ")", x.serves(hour), Towns.OUTSIDE);
            }
            s.due("serves(0)", x.serves(0), 200);
            s.due("serves(29)", x.serves(29), 200);
        });
        s.test(10, "STATE: there is no TOWN", () -> {
            s.due("serves(0)", new DeputyTown().serves(0), Towns.STATE);
            s.due("serves(29)", new DeputyTown().serves(29), Towns.STATE);
        });
    }
}
