/** Part 4: what had failed, by where things stood (promises 18 to 22). */
final class ReadingSentences {
    private final Sentences s;

    private ReadingSentences(Sentences s) {
        this.s = s;
    }

    static void all(Sentences s) {
        ReadingSentences part = new ReadingSentences(s);
        part.reading();
        part.readingRefusals();
        part.back();
        part.failed();
        part.failedSets();
        part.laws();
        part.odds();
        part.oddsRefusals();
    }

    // ---- promises 18 and 19

    private void reading() {
        s.test(18, "A READING: its number (t NONE: by none).", () -> {
            DeputyTown x = Towns.in(Towns.plain(3));
            s.due("0 by none", x.reading(0, Towns.NONE), 0);
            s.due("0 by none: both of the ring of two", x.failed(1), 3);
            s.due("1 by none", x.reading(1, Towns.NONE), 1);
            s.due("2 by none", x.reading(2, Towns.NONE), 2);
            s.due("all by none", x.failed(1), 7);
            s.due("behind a refused one", x.reading(3, 0) + x.reading(0, 0), Towns.UNKNOWN + 3);
        });
        s.test(18, "READINGS, 8 at most, each numbered by how many there are ahead of it (the first one 0): in HOUR 0 a USE was SERVED by a THING, or by none.", () -> {
            DeputyTown x = Towns.in(Towns.RING_OF_EIGHT);
            for (int k = 0; k < 8; k++) {
                s.due("READING " + k, x.reading(k, k), k);
                s.due("how many", x.many(2), k + 1);
            }
            s.due("a ninth", x.reading(0, 0), Towns.FULL);
            s.due("how many", x.many(2), 8);
            s.due("all of them count", x.failed(0), 1);
            x.back(1);
            s.due("all but that of 7", x.failed(0), 2);
            s.due("the eighth once more", x.reading(7, 0), 7);
            s.due("7 by 0", x.failed(2), 128);
        });
        s.test(18, "FULL.", () -> {
            DeputyTown x = Towns.in(Towns.plain(2));
            for (int k = 0; k < 8; k++) {
                x.reading(0, 0);
            }
            s.due("a ninth", x.reading(0, 1), Towns.FULL);
            s.due("a tenth", x.reading(1, Towns.NONE), Towns.FULL);
            s.due("neither counts", x.failed(0), 2);
            s.due("behind UNKNOWN", x.reading(2, 0), Towns.UNKNOWN);
            s.due("behind UNKNOWN", x.reading(0, 2), Towns.UNKNOWN);
        });
    }

    private void readingRefusals() {
        s.test(18, "UNKNOWN: USE, THING", () -> {
            for (int things = 2; things <= 8; things++) {
                DeputyTown x = Towns.in(Towns.plain(things));
                for (int t : Towns.noneOf(things)) {
                    s.due("reading(" + t + ", 0) of " + things, x.reading(t, 0), Towns.UNKNOWN);
                    s.due("reading(" + t + ", NONE) of " + things, x.reading(t, Towns.NONE), Towns.UNKNOWN);
                    if (t != Towns.NONE) {
                        s.due("reading(0, " + t + ") of " + things, x.reading(0, t), Towns.UNKNOWN);
                    }
                }
                s.due("no READING", x.many(2), 0);
                s.due("the last ones", x.reading(things - 1, things - 1), 0);
            }
            s.due("without a TOWN", new DeputyTown().reading(0, 0), Towns.UNKNOWN);
            s.due("without a TOWN", new DeputyTown().reading(0, Towns.NONE), Towns.UNKNOWN);
        });
    }

    private void back() {
        s.test(19, "The last k READINGS (0 .. as many as there are) are taken back: how many are left.", () -> {
            for (int k = 0; k <= 8; k++) {
                DeputyTown x = Towns.in(Towns.RING_OF_EIGHT);
                for (int use = 0; use < 8; use++) {
                    x.reading(use, use);
                }
                s.due("back(" + k + ")", x.back(k), 8 - k);
                s.due("READINGS", x.many(2), 8 - k);
                s.due("sets by those that are left", x.failed(0), 1 << k);
                s.due("one more than there are", x.back(9 - k), Towns.OUTSIDE);
                s.due("all that are left", x.back(8 - k), 0);
                s.due("all sets", x.failed(0), 256);
            }
            s.due("none without a TOWN", new DeputyTown().back(0), 0);
        });
        s.test(19, "OUTSIDE.", () -> {
            DeputyTown x = Towns.in(Towns.plain(2));
            for (int readings = 0; readings <= 8; readings++) {
                for (int k : Towns.noneOf(readings + 1)) {
                    s.due("back(" + k + ") of " + readings, x.back(k), Towns.OUTSIDE);
                }
                s.due("they stay", x.many(2), readings);
                x.reading(0, 0);
            }
            s.due("without a TOWN", new DeputyTown().back(1), Towns.OUTSIDE);
        });
    }

    // ---- promises 20 and 21

    private void failed() {
        s.test(20, "FAILED: how many sets (what 0), the least of the fewest (1; NONE: there is none), THINGS in all of them (2; NONE).", () -> {
            DeputyTown x = Towns.in(Towns.RING_OF_EIGHT);
            dueFailed("no READINGS", x, 256, 0, 0);
            x.reading(7, 0);
            dueFailed("7 by 0", x, 64, 128, 128);
            x.reading(0, 0);
            dueFailed("0 by itself", x, 64, 128, 128);
            x.reading(0, 1);
            dueFailed("0 by 1, too", x, 0, Towns.NONE, Towns.NONE);
            x.back(3);
            for (int use = 0; use < 8; use++) {
                x.reading(use, Towns.NONE);
            }
            dueFailed("all by none", x, 1, 255, 255);
        });
        s.test(20, "OUTSIDE", () -> {
            DeputyTown x = Towns.in(Towns.plain(2));
            for (int what : Towns.noneOf(3)) {
                s.due("failed(" + what + ")", x.failed(what), Towns.OUTSIDE);
            }
        });
        s.test(20, "STATE: there is no TOWN", () -> {
            for (int what = 0; what < 3; what++) {
                s.due("failed(" + what + ")", new DeputyTown().failed(what), Towns.STATE);
            }
        });
    }

    private void dueFailed(String what, DeputyTown x, int... want) {
        for (int k = 0; k < 3; k++) {
            s.due(what + ": failed(" + k + ")", x.failed(k), want[k]);
        }
    }

    private void failedSets() {
        s.test(20, "FAILED: sets of THINGS that were BROKEN in HOUR 0 (in place of all BREAKS) by which all READINGS are so: how many; the least of the fewest THINGS; those in all of them, as a set.", () -> {
            DeputyTown x = Towns.in("e;t211;t211;t111;t111");
            for (int t = 0; t < 4; t++) {
                x.smash(t, 0, 29);
            }
            x.law(1);
            x.reading(1, Towns.NONE);
            // USE 1 has 2 alone in its row: {0, 1}, {1, 2}, {0, 1, 2}, each with 3 or without it.
            dueFailed("1 by none", x, 6, 3, 2);
            x.reading(0, 0);
            dueFailed("1 by none, 0 by itself", x, 2, 6, 6);
            x.back(2);
            x.reading(3, 2);
            dueFailed("3 by 2: if 1 is BROKEN, USE 1 takes 2 ahead of it", x, 0, Towns.NONE, Towns.NONE);
            x.law(0);
            dueFailed("3 by 2, by LAW 0", x, 2, 10, 10);
            DeputyTown few = Towns.in("e;t111;t411;t311;t211;t211");
            few.law(1);
            few.reading(3, Towns.NONE);
            s.due("fewer THINGS ahead of a lesser set", few.failed(1), 12);
        });
    }

    private void laws() {
        s.test(21, "LAWS, as a set.", () -> {
            DeputyTown x = Towns.in("e;t111;t211;t091");
            s.due("no READINGS: all", x.laws(), 7);
            x.smash(0, 0, 0);
            x.reading(0, 1);
            s.due("by the first", x.laws(), 3);
            x.back(1);
            x.reading(0, 2);
            s.due("by the most GOOD", x.laws(), 4);
            x.reading(0, 1);
            s.due("by none of them", x.laws(), 0);
        });
        s.test(21, "LAWS: those by which all READINGS are so by BREAKS, as a set.", () -> {
            DeputyTown x = Towns.in("e;t111;t211;t111");
            x.smash(0, 0, 0);
            x.smash(2, 0, 0);
            x.reading(2, Towns.NONE);
            for (int law = 0; law < 3; law++) {
                x.law(law);
                s.due("2 by none, in LAW " + law, x.laws(), 2);
                s.due("the LAW stays", x.many(3), law);
            }
            x.glue(2);
            s.due("without BREAKS", x.laws(), 0);
            x.smash(0, 1, 29);
            x.smash(2, 1, 29);
            s.due("BREAKS of other HOURS", x.laws(), 0);
        });
        s.test(21, "STATE: there is no TOWN", () -> s.due("laws()", new DeputyTown().laws(), Towns.STATE));
    }

    // ---- promise 22

    private void dueOdds(String what, DeputyTown x, int use, long upper, long lower) {
        s.due(what + ": upper", x.odds(use, 0), upper);
        s.due(what + ": lower", x.odds(use, 1), lower);
    }

    private void odds() {
        s.test(22, "ODDS (which 0 the upper, 1 the lower number).", () -> {
            DeputyTown x = Towns.in(Towns.RING_OF_EIGHT);
            dueOdds("all must be BROKEN", x, 0, 255, 256);
            dueOdds("the least THINGS", Towns.in(Towns.plain(2)), 1, 3, 4);
        });
        s.test(22, "ODDS of a USE: if each THING is BROKEN in HOUR 0, or not (in place of all BREAKS), all such sets alike: the share of those by which it is SERVED.", () -> {
            DeputyTown x = Towns.in("e;t111;t211;t311;t411;t511;t611;t711;t611");
            x.smash(0, 0, 29);
            x.smash(7, 0, 29);
            for (int use = 0; use < 7; use++) {
                // It is UNDONE if all from it on are BROKEN.
                dueOdds("USE " + use, x, use, (1 << 8 - use) - 1, 1 << 8 - use);
            }
            dueOdds("USE 7, of a ring of two", x, 7, 3, 4);
            DeputyTown law = Towns.in("e;t111;t211;t111");
            law.law(1);
            // USE 2 has 1 alone in its row: UNDONE by {0, 2}, {1, 2}, {0, 1, 2}.
            dueOdds("by LAW 1", law, 2, 5, 8);
        });
        s.test(22, "Shares are told as upper and lower number (above 0) in least terms.", () -> {
            for (int things = 2; things <= 8; things++) {
                DeputyTown x = Towns.in(Towns.plain(things));
                dueOdds("3 of 4, of " + things, x, 0, 3, 4);
                if (things > 2) {
                    dueOdds("7 of 8, of " + things, x, things - 1, 7, 8);
                }
            }
        });
    }

    private void oddsRefusals() {
        s.test(22, "LOST: UNKNOWN", () -> {
            for (int things = 2; things <= 8; things++) {
                DeputyTown x = Towns.in(Towns.plain(things));
                for (int use : Towns.noneOf(things)) {
                    s.due("odds(" + use + ", 0) of " + things, x.odds(use, 0), Towns.LOST);
                    s.due("odds(" + use + ", 1) of " + things, x.odds(use, 1), Towns.LOST);
                }
            }
            s.due("without a TOWN", new DeputyTown().odds(0, 0), Towns.LOST);
            s.due("the constant", DeputyTown.LOST, Towns.LOST);
        });
        s.test(22, "OUTSIDE", () -> {
            DeputyTown x = Towns.in(Towns.plain(2));
            for (int which : Towns.noneOf(2)) {
                s.due("odds(0, " + which + ")", x.odds(0, which), Towns.LOST);
            }
        });
    }
}
