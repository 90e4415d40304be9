/** Part 1: a new object, the TEXT, and what is told and changed of a TOWN (promises 1 to 7). */
final class TownSentences {
    private final Sentences s;

    private TownSentences(Sentences s) {
        this.s = s;
    }

    static void all(Sentences s) {
        TownSentences part = new TownSentences(s);
        part.newObject();
        part.howManyThings();
        part.codesOfText();
        part.firstFault();
        part.strangers();
        part.cellsOfText();
        part.townRefusals();
        part.anew();
        part.ofThing();
        part.law();
        part.depute();
        part.smash();
        part.glue();
    }

    private void dueText(String text, long want) {
        DeputyTown x = new DeputyTown();
        s.due("TEXT " + text, Towns.townBy(x, text), want);
        s.due("THINGS by TEXT " + text, x.many(0), Math.max(want, 0));
    }

    // ---- promise 1

    private void newObject() {
        s.test(1, "An object is used for at most 512 calls after it has been made; what later calls answer is free.", () -> {
            DeputyTown x = new DeputyTown();
            Towns.townBy(x, Towns.plain(2));
            int calls = 13;
            int trace = 0;
            for (; calls < 511; calls++) {
                s.due("call " + calls, x.tell(0), 1);
                trace = 31 * trace + 1;
            }
            s.due("the 512th call: trace()", x.trace(), trace);
        });
        s.test(1, "No TOWN (no THINGS)", () -> {
            DeputyTown x = new DeputyTown();
            s.due("many(0)", x.many(0), 0);
            for (int t = 0; t < 8; t++) {
                s.due("ofThing(" + t + ", 0)", x.ofThing(t, 0), Towns.UNKNOWN);
            }
            s.due("ring()", x.ring(), Towns.STATE);
        });
        s.test(1, "SHEETS have nothing", () -> {
            DeputyTown x = new DeputyTown();
            for (int k = 0; k < Towns.SHEETS; k++) {
                s.due("put(" + k + ", 0, 1)", x.put(k, 0, 1), Towns.NULL);
                s.due("lose(" + k + ")", x.lose(k), 0);
            }
        });
    }

    // ---- promise 2

    private void howManyThings() {
        s.test(2, "A TOWN by a TEXT: e, then 2 to 8 THINGS", () -> {
            dueText("", -100);
            dueText("e", -101);
            dueText("e;t111", -106);
            for (int things = 2; things <= 8; things++) {
                dueText(Towns.plain(things), things);
            }
            dueText(Towns.plain(9), -141);
            dueText(Towns.plain(11), -141);
        });
        s.test(2, "numbered from 0 on", () -> {
            for (int things = 2; things <= 8; things++) {
                DeputyTown x = Towns.in(Towns.plain(things));
                s.due("ofThing(-1, 2)", x.ofThing(-1, 2), Towns.UNKNOWN);
                s.due("ofThing(0, 2)", x.ofThing(0, 2), 1);
                s.due("the last one", x.ofThing(things - 1, 2), 1);
                s.due("one behind it", x.ofThing(things, 2), Towns.UNKNOWN);
            }
        });
        s.test(2, "how many THINGS", () -> {
            DeputyTown x = new DeputyTown();
            s.due("two", Towns.townBy(x, Towns.plain(2)), 2);
            s.due("eight", Towns.townBy(x, Towns.RING_OF_EIGHT), 8);
            s.due("three", Towns.townBy(x, Towns.plain(3)), 3);
        });
    }

    private void codesOfText() {
        s.test(2, "(Codes: e 101, t 116, s 115, m 109, ; 59, digits 48 .. 57.)", () -> {
            for (int place = 0; place < Towns.RING_OF_EIGHT.length(); place++) {
                dueCodesAt(place);
            }
        });
        s.test(2, "each: ; and a letter", () -> {
            dueText("e;t111;t011", 2);
            dueText("e:t111;t011", -101);
            dueText("e<t111;t011", -101);
            dueText("et111;t011", -101);
            dueText("e;;t111;t011", -102);
            dueText("e;111;t011", -102);
            dueText("e;t111t011", -106);
            dueText("e;t111;011", -107);
            for (String letter : new String[] {"l", "n", "r", "u", "T", "S", "M", "e"}) {
                dueText("e;" + letter + "111;t011", -102);
                dueText("e;t111;" + letter + "011", -107);
            }
        });
        s.test(2, "a digit 0 .. 7 (its DEPUTY:", () -> {
            dueText("e;t111;t/11", -108);
            dueText("e;t111;t011", 2);
            dueText("e;t711;t011;t011;t011;t011;t011;t011;t611", 8);
            dueText("e;t811;t011;t011;t011;t011;t011;t011;t611", -103);
            dueText("e;t911;t011", -103);
            dueText("e;t:11;t011", -103);
        });
        s.test(2, "it may be told ahead of that THING", () -> {
            for (int deputy = 1; deputy < 8; deputy++) {
                DeputyTown x = new DeputyTown();
                s.due("town", Towns.townBy(x, "e;t" + deputy + Towns.RING_OF_EIGHT.substring(4)), 8);
                s.due("its DEPUTY", x.ofThing(0, 1), deputy);
            }
        });
        s.test(2, "but not itself", () -> {
            for (int t = 0; t < 8; t++) {
                String text = Towns.RING_OF_EIGHT;
                int place = 5 * t + 3;
                dueText(text.substring(0, place) + t + text.substring(place + 1), -100 - place);
            }
        });
        s.test(2, "a digit 1 .. 9 (FIT)", () -> dueDigitsAt(4));
        s.test(2, "a digit 1 .. 9 (LASTS)", () -> dueDigitsAt(5));
    }

    /** Each code of a byte and some beyond, in a TEXT that is else as told. */
    private void dueCodesAt(int place) {
        String text = Towns.RING_OF_EIGHT;
        String[] parts = {";", "tsm", "01234567".replace("" + (place - 1) / 5, ""), "123456789", "123456789"};
        String taken = place == 0 ? "e" : parts[(place - 1) % 5];
        DeputyTown x = new DeputyTown();
        Towns.write(x, 0, 2, text);
        for (int code = -3; code < 140; code++) {
            x.put(0, place, code);
            boolean isTaken = code >= 0 && taken.indexOf(code) >= 0;
            s.due("code " + code + " at " + place, x.town(0, 2, 0, text.length()), isTaken ? 8 : -100 - place);
        }
        x.put(0, place, text.charAt(place) + 256);
        s.due("a code of its last bits at " + place, x.town(0, 2, 0, text.length()), -100 - place);
        x.put(0, place, text.charAt(place) - (1 << 16));
        s.due("a code below 0 at " + place, x.town(0, 2, 0, text.length()), -100 - place);
    }

    private void dueDigitsAt(int place) {
        for (int t = 0; t < 2; t++) {
            int at = place + 5 * t;
            String text = "e;t111;t011";
            for (char code = '/'; code <= ':'; code++) {
                boolean isTaken = code >= '1' && code <= '9';
                DeputyTown x = new DeputyTown();
                String told = text.substring(0, at) + code + text.substring(at + 1);
                s.due("TEXT " + told, Towns.townBy(x, told), isTaken ? 2 : -100 - at);
                s.due("told of it", x.ofThing(t, place - 2), isTaken ? code - '0' : Towns.UNKNOWN);
            }
        }
    }

    private void firstFault() {
        s.test(2, "FIRST FAULT: the place (from 0 on) of the first code with which no TEXT goes on", () -> {
            dueText("x;t111;t011", -100);
            dueText("x;x888;t011", -100);
            dueText("e;x888;t011", -102);
            dueText("e;t800;t011", -103);
            dueText("e;t100;t011", -104);
            dueText("e;t110;t011", -105);
            dueText("e;t111;t01x", -110);
            dueText("e;t111;t011x", -111);
            dueText("e;t111;t0111", -111);
            dueText("e;t111;t011e", -111);
            dueText("e;t111;t011;x", -112);
            dueText(Towns.RING_OF_EIGHT.substring(0, 40) + "0", -140);
        });
        s.test(2, "a DEPUTY that is the THING itself", () -> {
            dueText("e;t011;t011", -103);
            dueText("e;t0", -103);
            dueText("e;t111;t111", -108);
            dueText("e;t111;t1", -108);
            dueText("e;t011;t111", -103);
            dueText("e;t711;t011;t011;t011;t011;t011;t011;t711", -138);
        });
        s.test(2, "the ; of a ninth THING", () -> {
            dueText(Towns.RING_OF_EIGHT, 8);
            dueText(Towns.RING_OF_EIGHT + ";", -141);
            dueText(Towns.RING_OF_EIGHT + ";t011", -141);
            dueText(Towns.RING_OF_EIGHT + "x", -141);
        });
        s.test(2, "how many codes there are, if it just ends too soon", () -> {
            for (int n = 0; n <= Towns.RING_OF_EIGHT.length(); n++) {
                DeputyTown x = new DeputyTown();
                Towns.write(x, 0, 1, Towns.RING_OF_EIGHT.replace('7', '0'));
                boolean isWhole = n >= 11 && n % 5 == 1;
                // THING k of it has k + 1 for its DEPUTY, which is no THING yet where the TEXT ends.
                long want = isWhole && n < 36 ? -100 - (n - 3) : isWhole ? n / 5 : -100 - n;
                s.due(n + " codes", x.town(0, 1, 0, n), want);
            }
            dueText("e;t711", -106);
            dueText("e;t711;t01", -110);
        });
    }

    private void strangers() {
        s.test(2, "of a TEXT that is else as told the place of the first DEPUTY that is no THING of it", () -> {
            for (int things = 2; things < 8; things++) {
                String text = Towns.plain(things);
                for (int t = 0; t < things; t++) {
                    int place = 5 * t + 3;
                    for (int deputy = things - 1; deputy < 8; deputy++) {
                        if (deputy != t) {
                            String told = text.substring(0, place) + deputy + text.substring(place + 1);
                            dueText(told, deputy < things ? things : -100 - place);
                        }
                    }
                }
            }
            dueText("e;t711;t611;t511", -103);
            dueText("e;t111;t311;t411", -108);
            dueText("e;t711;t01x", -110);
            dueText("e;t711;t011;", -112);
        });
    }

    private void cellsOfText() {
        s.test(2, "A TOWN by a TEXT of n cells of a SHEET from i on", () -> {
            DeputyTown x = new DeputyTown();
            String text = Towns.plain(2);
            Towns.write(x, 0, 0, text + "??" + text + "!" + text);
            s.due("at the start", x.town(0, 0, 0, 11), 2);
            s.due("amid it", x.town(0, 0, 13, 11), 2);
            s.due("at the end", x.town(0, 0, 25, 11), 2);
            s.due("one ahead", x.town(0, 0, 12, 11), -100);
            s.due("one behind", x.town(0, 0, 14, 11), -100);
            s.due("one less", x.town(0, 0, 13, 10), -110);
            s.due("one more", x.town(0, 0, 13, 12), -111);
            Towns.write(x, 1, 0, "?".repeat(19) + Towns.RING_OF_EIGHT);
            s.due("the last cells of 60", x.town(1, 0, 19, 41), 8);
        });
        s.test(2, "taken as a row of a LANE", () -> {
            for (int lane = 0; lane < Towns.LANES; lane++) {
                DeputyTown x = new DeputyTown();
                Towns.write(x, 0, lane, Towns.plain(2));
                for (int as = 0; as < Towns.LANES; as++) {
                    s.due("LANE " + lane + " as " + as, x.town(0, as, 0, 11), as == lane ? 2 : Towns.CAST);
                }
                x.put(0, 2, 't' + 256);
                s.due("cut to LANE " + lane, x.town(0, lane, 0, 11), lane == 0 ? 2 : -102);
                x.put(0, 2, 't' + (1 << 16));
                s.due("cut to LANE " + lane, x.town(0, lane, 0, 11), lane < 2 ? 2 : -102);
            }
        });
        s.test(2, "-100 less the FIRST FAULT", () -> {
            DeputyTown x = new DeputyTown();
            Towns.write(x, 0, 0, Towns.RING_OF_EIGHT + ";");
            s.due("place 41", x.town(0, 0, 0, 42), -141);
            s.due("place 0", x.town(0, 0, 1, 41), -100);
            s.due("none is a FAULT of the machine", x.fault(), 0);
        });
    }

    private void townRefusals() {
        s.test(2, "UNKNOWN", () -> {
            DeputyTown x = Towns.in(Towns.plain(2));
            for (int sheet : Towns.noneOf(Towns.SHEETS)) {
                s.due("town(" + sheet + ", 0, 0, 11)", x.town(sheet, 0, 0, 11), Towns.UNKNOWN);
            }
        });
        s.test(2, "OUTSIDE: lane", () -> {
            DeputyTown x = Towns.in(Towns.plain(2));
            for (int lane : Towns.noneOf(Towns.LANES)) {
                s.due("town(3, " + lane + ", 0, 11)", x.town(3, lane, 0, 11), Towns.OUTSIDE);
            }
        });
        s.test(2, "CAST (nothing is no CAST)", () -> {
            DeputyTown x = new DeputyTown();
            for (int lane = 0; lane < Towns.LANES; lane++) {
                s.due("of nothing", x.town(0, lane, 0, 0), Towns.NULL);
            }
            x.sheet(0, 2, 0);
            s.due("of a row without cells", x.town(0, 1, 0, 0), Towns.CAST);
            x.lose(0);
            s.due("of nothing again", x.town(0, 1, 0, 0), Towns.NULL);
        });
        s.test(2, "NULL", () -> {
            DeputyTown x = new DeputyTown();
            s.due("ahead of SIZE", x.town(0, 0, 0, -1), Towns.NULL);
            s.due("its FAULT", x.fault(), 1);
            s.due("ahead of INDEX", x.town(0, 0, -1, 0), Towns.NULL);
        });
        s.test(2, "SIZE: n below 0", () -> {
            DeputyTown x = Towns.in(Towns.plain(2));
            s.due("n 0", x.town(3, 0, 0, 0), -100);
            s.due("n -1", x.town(3, 0, 0, -1), Towns.SIZE);
            s.due("its FAULT", x.fault(), 4);
            s.due("n least", x.town(3, 0, 0, Towns.MIN), Towns.SIZE);
            s.due("ahead of INDEX", x.town(3, 0, -1, -1), Towns.SIZE);
            s.due("ahead of INDEX", x.town(3, 0, 12, -1), Towns.SIZE);
        });
        s.test(2, "INDEX", () -> {
            DeputyTown x = Towns.in(Towns.plain(2));
            s.due("all cells", x.town(3, 0, 0, 11), 2);
            s.due("one too many", x.town(3, 0, 0, 12), Towns.INDEX);
            s.due("its FAULT", x.fault(), 3);
            s.due("one too far", x.town(3, 0, 1, 11), Towns.INDEX);
            s.due("i below", x.town(3, 0, -1, 11), Towns.INDEX);
            s.due("a sum that wraps", x.town(3, 0, 11, Towns.MAX), Towns.INDEX);
            s.due("a sum that wraps", x.town(3, 0, Towns.MAX, Towns.MAX), Towns.INDEX);
            s.due("the least i", x.town(3, 0, Towns.MIN, Towns.MAX), Towns.INDEX);
            x.sheet(3, 0, 10);
            s.due("cells of an older row", x.town(3, 0, 0, 11), Towns.INDEX);
        });
        s.test(2, "-100 less it", () -> {
            DeputyTown x = new DeputyTown();
            Towns.write(x, 0, 0, "e;t111;t111");
            s.due("behind INDEX", x.town(0, 0, 0, 12), Towns.INDEX);
            s.due("a TEXT with a FIRST FAULT", x.town(0, 0, 0, 11), -108);
            s.due("it is no FAULT", x.fault(), 0);
        });
    }

    private void anew() {
        s.test(2, "A TEXT that is taken makes all anew, but for SHEETS and TRACE", () -> {
            DeputyTown x = Towns.in(Towns.RING_OF_EIGHT);
            x.tell(0);
            x.depute(0, 5);
            x.sheet(0, 2, 1);
            x.put(0, 0, 77);
            s.due("fewer THINGS", Towns.townBy(x, "e;s192;m083"), 2);
            s.due("its DEPUTY", x.ofThing(0, 1), 1);
            s.due("its kind", x.ofThing(0, 0), 1);
            s.due("no more THINGS", x.ofThing(2, 0), Towns.UNKNOWN);
            s.due("the SHEET", x.cell(0, 0, 2), 77);
            s.due("the TEXT's SHEET", x.cell(3, 0, 0), 'e');
            s.due("TRACE", x.trace(), 1);
        });
        s.test(2, "the LAW is 0, no BREAKS, no READINGS", () -> {
            DeputyTown x = Towns.in(Towns.plain(3));
            x.law(2);
            x.smash(0, 0, 29);
            x.reading(0, Towns.NONE);
            Towns.townBy(x, Towns.plain(3));
            s.due("the LAW", x.many(3), 0);
            s.due("BREAKS", x.many(1), 0);
            s.due("READINGS", x.many(2), 0);
            s.due("nothing is BROKEN", x.by(0, 29), 0);
            s.due("nothing is read", x.failed(0), 8);
            s.due("the first BREAK", x.smash(1, 5, 5), 0);
            s.due("the first READING", x.reading(1, 1), 0);
            s.due("nothing of the BREAK that was", x.undone(0) + x.by(0, 5), 0);
        });
    }

    // ---- promises 3 to 7

    private void ofThing() {
        s.test(3, "Of a THING: 0 kind, 1 its DEPUTY, 2 FIT, 3 how long it LASTS, 4 how GOOD it is.", () -> {
            DeputyTown x = Towns.in("e;t111;s298;m389;t099");
            int[][] want = {{0, 1, 1, 1, 1}, {1, 2, 9, 8, 10}, {2, 3, 8, 9, 18}, {0, 0, 9, 9, 9}};
            for (int t = 0; t < want.length; t++) {
                for (int what = 0; what < 5; what++) {
                    s.due("ofThing(" + t + ", " + what + ")", x.ofThing(t, what), want[t][what]);
                }
            }
        });
        s.test(3, "Kinds: 0 THING (t); 1 SWORN (s), a THING; 2 MAYOR (m), a SWORN.", () -> {
            DeputyTown x = Towns.in("e;m111;s011;t011");
            s.due("m", x.ofThing(0, 0), 2);
            s.due("s", x.ofThing(1, 0), 1);
            s.due("t", x.ofThing(2, 0), 0);
        });
        s.test(3, "GOOD is how well it stands in for another: a THING by its FIT; a SWORN one by 1 more; a MAYOR by twice what a SWORN one does.", () -> {
            for (int fit = 1; fit <= 9; fit++) {
                DeputyTown x = Towns.in("e;t1" + fit + "1;s0" + fit + "1;m0" + fit + "1");
                s.due("a THING, FIT " + fit, x.ofThing(0, 4), fit);
                s.due("a SWORN one, FIT " + fit, x.ofThing(1, 4), fit + 1);
                s.due("a MAYOR, FIT " + fit, x.ofThing(2, 4), 2 * fit + 2);
            }
        });
        s.test(3, "UNKNOWN", () -> {
            for (int things = 2; things <= 8; things++) {
                DeputyTown x = Towns.in(Towns.plain(things));
                for (int t : Towns.noneOf(things)) {
                    s.due("ofThing(" + t + ", 0) of " + things, x.ofThing(t, 0), Towns.UNKNOWN);
                }
            }
            s.due("without a TOWN", new DeputyTown().ofThing(0, 0), Towns.UNKNOWN);
        });
        s.test(3, "OUTSIDE", () -> {
            DeputyTown x = Towns.in(Towns.plain(2));
            for (int what : Towns.noneOf(5)) {
                s.due("ofThing(1, " + what + ")", x.ofThing(1, what), Towns.OUTSIDE);
            }
        });
    }

    private void law() {
        s.test(4, "The LAW becomes v: what it was.", () -> {
            DeputyTown x = Towns.in(Towns.plain(2));
            for (int was = 0; was < 3; was++) {
                for (int v = 0; v < 3; v++) {
                    x.law(was);
                    s.due("law(" + v + ") behind " + was, x.law(v), was);
                    s.due("the LAW", x.many(3), v);
                }
            }
        });
        s.test(4, "OUTSIDE: 0 .. 2", () -> {
            DeputyTown x = Towns.in(Towns.plain(2));
            x.law(2);
            for (int v : Towns.noneOf(3)) {
                s.due("law(" + v + ")", x.law(v), Towns.OUTSIDE);
                s.due("law(" + v + ") ahead of a TOWN", new DeputyTown().law(v), Towns.OUTSIDE);
            }
            s.due("the LAW stays", x.law(0), 2);
        });
        s.test(4, "STATE: there is no TOWN", () -> {
            DeputyTown x = new DeputyTown();
            for (int v = 0; v < 3; v++) {
                s.due("law(" + v + ")", x.law(v), Towns.STATE);
            }
            s.due("the LAW", x.many(3), 0);
            Towns.townBy(x, Towns.plain(2));
            s.due("by a TOWN", x.law(2), 0);
        });
    }

    private void depute() {
        s.test(5, "The DEPUTY of a THING becomes another one: which it was.", () -> {
            DeputyTown x = Towns.in(Towns.RING_OF_EIGHT);
            s.due("depute(0, 7)", x.depute(0, 7), 1);
            s.due("depute(0, 1)", x.depute(0, 1), 7);
            s.due("depute(0, 1) again", x.depute(0, 1), 1);
            s.due("depute(7, 1)", x.depute(7, 1), 0);
            s.due("its DEPUTY", x.ofThing(7, 1), 1);
            s.due("another one's", x.ofThing(6, 1), 7);
            x.smash(7, 0, 0);
            s.due("who stands in for it", x.by(7, 0), 1);
        });
        s.test(5, "UNKNOWN: THINGS", () -> {
            DeputyTown x = Towns.in(Towns.plain(4));
            for (int t : Towns.noneOf(4)) {
                s.due("depute(" + t + ", 0)", x.depute(t, 0), Towns.UNKNOWN);
                s.due("depute(0, " + t + ")", x.depute(0, t), Towns.UNKNOWN);
                s.due("depute of both", x.depute(t, t), Towns.UNKNOWN);
            }
            s.due("its DEPUTY stays", x.ofThing(0, 1), 1);
            s.due("without a TOWN", new DeputyTown().depute(0, 1), Towns.UNKNOWN);
        });
        s.test(5, "OUTSIDE: they are one.", () -> {
            DeputyTown x = Towns.in(Towns.RING_OF_EIGHT);
            for (int t = 0; t < 8; t++) {
                s.due("depute(" + t + ", " + t + ")", x.depute(t, t), Towns.OUTSIDE);
                s.due("its DEPUTY", x.ofThing(t, 1), (t + 1) % 8);
            }
        });
    }

    private void smash() {
        s.test(6, "A BREAK: its number.", () -> {
            DeputyTown x = Towns.in(Towns.plain(2));
            s.due("the first", x.smash(1, 3, 4), 0);
            s.due("the same once more", x.smash(1, 3, 4), 1);
            s.due("another THING", x.smash(0, 0, 29), 2);
            s.due("behind a refused one", x.smash(0, 30, 30) + x.smash(0, 1, 1), Towns.OUTSIDE + 3);
        });
        s.test(6, "BREAKS, 8 at most, each numbered by how many there are ahead of it (the first one 0)", () -> {
            DeputyTown x = Towns.in(Towns.plain(8));
            for (int k = 0; k < 8; k++) {
                s.due("BREAK " + k, x.smash(k, k, 29), k);
                s.due("how many", x.many(1), k + 1);
            }
            s.due("a ninth", x.smash(0, 0, 0), Towns.FULL);
            s.due("how many", x.many(1), 8);
            s.due("all of them stand", x.undone(29), 255);
            x.glue(1);
            s.due("the eighth once more", x.smash(7, 0, 0), 7);
        });
        s.test(6, "a THING is BROKEN from an HOUR to another one (it, too)", () -> {
            for (int from = 0; from < Towns.HOURS; from += 1 + from % 7) {
                for (int to = from; to < Towns.HOURS; to += 1 + to % 5) {
                    dueBroken(from, to);
                }
            }
            dueBroken(0, 0);
            dueBroken(29, 29);
            dueBroken(0, 29);
        });
        s.test(6, "UNKNOWN: THING", () -> {
            DeputyTown x = Towns.in(Towns.plain(5));
            for (int t : Towns.noneOf(5)) {
                s.due("smash(" + t + ", 0, 0)", x.smash(t, 0, 0), Towns.UNKNOWN);
                s.due("ahead of OUTSIDE", x.smash(t, 1, 0), Towns.UNKNOWN);
            }
            s.due("without a TOWN", new DeputyTown().smash(0, 0, 0), Towns.UNKNOWN);
        });
        s.test(6, "OUTSIDE: from, to (0 .. 29, not below from)", () -> {
            DeputyTown x = Towns.in(Towns.plain(2));
            for (int hour : Towns.noneOf(Towns.HOURS)) {
                s.due("smash(0, " + hour + ", 29)", x.smash(0, hour, 29), Towns.OUTSIDE);
                s.due("smash(0, 0, " + hour + ")", x.smash(0, 0, hour), Towns.OUTSIDE);
                s.due("smash(0, " + hour + ", " + hour + ")", x.smash(0, hour, hour), Towns.OUTSIDE);
            }
            s.due("smash(0, 1, 0)", x.smash(0, 1, 0), Towns.OUTSIDE);
            s.due("smash(0, 29, 28)", x.smash(0, 29, 28), Towns.OUTSIDE);
            s.due("no BREAK", x.many(1), 0);
            s.due("smash(0, 0, 0)", x.smash(0, 0, 0), 0);
            s.due("smash(0, 29, 29)", x.smash(0, 29, 29), 1);
            s.due("smash(0, 0, 29)", x.smash(0, 0, 29), 2);
        });
        s.test(6, "FULL.", () -> {
            DeputyTown x = Towns.in(Towns.plain(2));
            for (int k = 0; k < 8; k++) {
                x.smash(0, 0, 0);
            }
            s.due("a ninth", x.smash(1, 1, 1), Towns.FULL);
            s.due("a tenth", x.smash(1, 1, 1), Towns.FULL);
            s.due("THING 1 is not BROKEN", x.by(1, 1), 1);
            s.due("behind UNKNOWN", x.smash(2, 1, 1), Towns.UNKNOWN);
            s.due("behind OUTSIDE", x.smash(1, 1, 0), Towns.OUTSIDE);
        });
    }

    private void dueBroken(int from, int to) {
        DeputyTown x = Towns.in(Towns.plain(2));
        x.smash(0, from, to);
        for (int hour = 0; hour < Towns.HOURS; hour++) {
            boolean isWhole = hour < from || hour > to;
            s.due("WHOLE in HOUR " + hour + " by " + from + " .. " + to, x.by(0, hour) == 0 ? 1 : 0, isWhole ? 1 : 0);
        }
    }

    private void glue() {
        s.test(7, "The last k BREAKS (0 .. as many as there are) are mended: how many are left.", () -> {
            for (int k = 0; k <= 8; k++) {
                DeputyTown x = Towns.in(Towns.plain(8));
                for (int t = 0; t < 8; t++) {
                    x.smash(t, 4, 4);
                }
                s.due("glue(" + k + ")", x.glue(k), 8 - k);
                s.due("BREAKS", x.many(1), 8 - k);
                int whole = 0;
                for (int t = 0; t < 8; t++) {
                    whole |= x.by(t, 4) == t ? 1 << t : 0;
                }
                s.due("those that are WHOLE", whole, 256 - (1 << 8 - k));
                s.due("one more than there are", x.glue(9 - k), Towns.OUTSIDE);
                s.due("all that are left", x.glue(8 - k), 0);
            }
            s.due("none without a TOWN", new DeputyTown().glue(0), 0);
        });
        s.test(7, "OUTSIDE.", () -> {
            DeputyTown x = Towns.in(Towns.plain(2));
            for (int breaks = 0; breaks <= 8; breaks++) {
                for (int k : Towns.noneOf(breaks + 1)) {
                    s.due("glue(" + k + ") of " + breaks, x.glue(k), Towns.OUTSIDE);
                }
                s.due("they stay", x.many(1), breaks);
                x.smash(0, 0, 0);
            }
            s.due("without a TOWN", new DeputyTown().glue(1), Towns.OUTSIDE);
        });
    }
}
