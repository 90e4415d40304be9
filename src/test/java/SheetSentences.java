/** Part 5: SHEETS, kinds and their bodies, FAULTS (promises 23 to 33). */
final class SheetSentences {
    private final Sentences s;

    private SheetSentences(Sentences s) {
        this.s = s;
    }

    static void all(Sentences s) {
        SheetSentences part = new SheetSentences(s);
        part.sheet();
        part.sheetRefusals();
        part.lose();
        part.put();
        part.cell();
        part.cellFaults();
        part.copy();
        part.copyFaults();
        part.tell();
        part.call();
        part.as();
        part.traceAndFault();
        part.many();
    }

    private void dueCells(String what, DeputyTown x, int k, int lane, int... want) {
        for (int i = 0; i < want.length; i++) {
            s.due(what + ": cell " + i, x.cell(k, i, lane), want[i]);
        }
    }

    // ---- promises 23 to 25

    private void sheet() {
        s.test(23, "A SHEET gets a new row: 1.", () -> {
            for (int lane = 0; lane < Towns.LANES; lane++) {
                DeputyTown x = new DeputyTown();
                s.due("the first row", x.sheet(1, 2, 3), 1);
                x.put(1, 0, 5);
                x.put(1, 2, 7);
                s.due("a new one", x.sheet(1, lane, 3), 1);
                dueCells("0 at first", x, 1, lane, 0, 0, 0);
                s.due("a lesser one", x.sheet(1, lane, 1), 1);
                s.due("no cell 1", x.put(1, 1, 1), Towns.INDEX);
                s.due("a greater one", x.sheet(1, lane, 4), 1);
                dueCells("0 at first", x, 1, lane, 0, 0, 0, 0);
                s.due("another SHEET", x.lose(0) + x.lose(2) + x.lose(3), 0);
            }
        });
        s.test(23, "SHEETS 0 .. 3 have nothing (at first), or a row of 0 .. 60 numbers (0 at first) of a LANE: 0 bytes, 1 shorts, 2 ints", () -> {
            for (int k = 0; k < Towns.SHEETS; k++) {
                DeputyTown x = new DeputyTown();
                s.due("nothing at first", x.lose(k), 0);
                for (int lane = 0; lane < Towns.LANES; lane++) {
                    s.due("a row of 0", x.sheet(k, lane, 0), 1);
                    s.due("has no cell 0", x.put(k, 0, 1), Towns.INDEX);
                    s.due("a row of 1", x.sheet(k, lane, 1), 1);
                    s.due("has cell 0", x.put(k, 0, 1), 1);
                    s.due("has no cell 1", x.put(k, 1, 1), Towns.INDEX);
                    s.due("a row of 60", x.sheet(k, lane, 60), 1);
                    for (int i = 0; i < 60; i++) {
                        s.due("0 at first: cell " + i, x.cell(k, i, lane), 0);
                    }
                    s.due("has cell 59", x.put(k, 59, 1), 1);
                    s.due("has no cell 60", x.put(k, 60, 1), Towns.INDEX);
                    s.due("a row of 61", x.sheet(k, lane, 61), Towns.OUTSIDE);
                }
            }
        });
        s.test(23, "; SIZE.", () -> {
            DeputyTown x = new DeputyTown();
            s.due("n -1", x.sheet(0, 0, -1), Towns.SIZE);
            s.due("its FAULT", x.fault(), 4);
            s.due("n least", x.sheet(0, 2, Towns.MIN), Towns.SIZE);
            s.due("nothing by it", x.lose(0), 0);
            s.due("n 0", x.sheet(0, 0, 0), 1);
            s.due("no FAULT", x.fault(), 0);
        });
    }

    private void sheetRefusals() {
        s.test(23, "UNKNOWN", () -> {
            DeputyTown x = new DeputyTown();
            for (int k : Towns.noneOf(Towns.SHEETS)) {
                s.due("sheet(" + k + ", 0, 1)", x.sheet(k, 0, 1), Towns.UNKNOWN);
            }
        });
        s.test(23, "OUTSIDE: lane", () -> {
            DeputyTown x = new DeputyTown();
            for (int lane : Towns.noneOf(Towns.LANES)) {
                s.due("sheet(0, " + lane + ", 1)", x.sheet(0, lane, 1), Towns.OUTSIDE);
                s.due("ahead of SIZE", x.sheet(0, lane, -1), Towns.OUTSIDE);
            }
            s.due("nothing by them", x.lose(0), 0);
        });
        s.test(23, "n above 60", () -> {
            DeputyTown x = new DeputyTown();
            x.sheet(0, 0, 60);
            x.put(0, 59, 9);
            for (int n : new int[] {61, 62, 64, 256, 1 << 16, Towns.MAX}) {
                s.due("sheet(0, 0, " + n + ")", x.sheet(0, 0, n), Towns.OUTSIDE);
            }
            s.due("the row stays", x.cell(0, 59, 0), 9);
        });
    }

    private void lose() {
        s.test(24, "A SHEET has nothing: 1; 0: it had nothing.", () -> {
            for (int k = 0; k < Towns.SHEETS; k++) {
                DeputyTown x = new DeputyTown();
                s.due("nothing at first", x.lose(k), 0);
                x.sheet(k, 1, 0);
                s.due("a row of 0 cells", x.lose(k), 1);
                s.due("twice", x.lose(k), 0);
                x.sheet(k, 2, 60);
                s.due("a row of 60 cells", x.lose(k), 1);
                s.due("nothing to put to", x.put(k, 0, 1), Towns.NULL);
            }
        });
        s.test(24, "UNKNOWN", () -> {
            DeputyTown x = new DeputyTown();
            for (int k : Towns.noneOf(Towns.SHEETS)) {
                s.due("lose(" + k + ")", x.lose(k), Towns.UNKNOWN);
            }
        });
    }

    private void put() {
        s.test(25, "Cell i of a SHEET becomes v: 1.", () -> {
            for (int k = 0; k < Towns.SHEETS; k++) {
                DeputyTown x = new DeputyTown();
                x.sheet(k, 2, 60);
                for (int i : new int[] {0, 1, 58, 59}) {
                    s.due("put(" + k + ", " + i + ", -7)", x.put(k, i, -7), 1);
                    s.due("it", x.cell(k, i, 2), -7);
                }
                s.due("the next one", x.cell(k, 2, 2), 0);
                s.due("once more", x.put(k, 0, 8), 1);
                s.due("it", x.cell(k, 0, 2), 8);
            }
        });
        s.test(25, "what comes to a cell of it is cut to its LANE (with its sign).", () -> {
            int[] values = {127, 128, -128, -129, 255, 256, 32767, 32768, -32768, -32769, 65535, 65536, Towns.MIN, Towns.MAX};
            DeputyTown x = new DeputyTown();
            for (int lane = 0; lane < Towns.LANES; lane++) {
                x.sheet(lane, lane, 1);
                for (int v : values) {
                    x.put(lane, 0, v);
                    int want = lane == 0 ? (byte) v : lane == 1 ? (short) v : v;
                    s.due(v + " in LANE " + lane, x.cell(lane, 0, lane), want);
                }
            }
            x.put(0, 0, 128);
            s.due("128 as a byte", x.cell(0, 0, 0), -128);
            x.put(1, 0, 32768);
            s.due("32768 as a short", x.cell(1, 0, 1), -32768);
        });
        s.test(25, "UNKNOWN", () -> {
            DeputyTown x = new DeputyTown();
            for (int k : Towns.noneOf(Towns.SHEETS)) {
                s.due("put(" + k + ", 0, 0)", x.put(k, 0, 0), Towns.UNKNOWN);
            }
        });
        s.test(25, "NULL", () -> {
            DeputyTown x = new DeputyTown();
            s.due("nothing", x.put(0, 0, 0), Towns.NULL);
            s.due("its FAULT", x.fault(), 1);
            s.due("ahead of INDEX", x.put(0, -1, 0), Towns.NULL);
        });
        s.test(25, "INDEX", () -> {
            for (int n = 0; n <= 60; n += 20) {
                DeputyTown x = new DeputyTown();
                x.sheet(0, 2, n);
                for (int i : Towns.noneOf(n)) {
                    if (i < 0 || i >= n) {
                        s.due("put(0, " + i + ", 1) of " + n, x.put(0, i, 1), Towns.INDEX);
                        s.due("its FAULT", x.fault(), 3);
                    }
                }
            }
        });
    }

    // ---- promises 26 and 27

    private void cell() {
        s.test(26, "Cell i of what a SHEET has, taken as a row of a LANE.", () -> {
            DeputyTown x = new DeputyTown();
            for (int lane = 0; lane < Towns.LANES; lane++) {
                x.sheet(lane, lane, 60);
                for (int i : new int[] {0, 30, 59}) {
                    x.put(lane, i, i - 31);
                }
                for (int i : new int[] {0, 30, 59}) {
                    s.due("cell(" + lane + ", " + i + ", " + lane + ")", x.cell(lane, i, lane), i - 31);
                    s.due("no FAULT", x.fault(), 0);
                }
            }
        });
        s.test(26, "LOST: UNKNOWN", () -> {
            DeputyTown x = new DeputyTown();
            x.put(0, 0, 0);
            for (int k : Towns.noneOf(Towns.SHEETS)) {
                s.due("cell(" + k + ", 0, 0)", x.cell(k, 0, 0), Towns.LOST);
                s.due("no FAULT", x.fault(), 0);
            }
        });
        s.test(26, "OUTSIDE: lane", () -> {
            DeputyTown x = new DeputyTown();
            for (int lane : Towns.noneOf(Towns.LANES)) {
                x.put(0, 0, 0);
                s.due("cell(0, 0, " + lane + ")", x.cell(0, 0, lane), Towns.LOST);
                s.due("no FAULT, though there is nothing", x.fault(), 0);
            }
        });
    }

    private void cellFaults() {
        s.test(26, "FAULTS CAST (nothing is no CAST)", () -> {
            DeputyTown x = new DeputyTown();
            for (int lane = 0; lane < Towns.LANES; lane++) {
                for (int as = 0; as < Towns.LANES; as++) {
                    x.sheet(0, lane, 1);
                    s.due("LANE " + lane + " as " + as, x.cell(0, 0, as), lane == as ? 0 : Towns.LOST);
                    s.due("its FAULT", x.fault(), lane == as ? 0 : 2);
                    x.cell(0, 1, as);
                    s.due("ahead of INDEX", x.fault(), lane == as ? 3 : 2);
                    x.lose(0);
                    s.due("nothing as " + as, x.cell(0, 0, as), Towns.LOST);
                    s.due("is no CAST", x.fault(), 1);
                }
            }
        });
        s.test(26, "NULL", () -> {
            DeputyTown x = new DeputyTown();
            s.due("nothing", x.cell(0, 0, 0), Towns.LOST);
            s.due("its FAULT", x.fault(), 1);
            s.due("nothing, and i below", x.cell(0, -1, 2), Towns.LOST);
            s.due("ahead of INDEX", x.fault(), 1);
        });
        s.test(26, "INDEX", () -> {
            for (int n = 0; n <= 60; n += 20) {
                DeputyTown x = new DeputyTown();
                x.sheet(0, 1, n);
                for (int i : Towns.noneOf(n)) {
                    if (i < 0 || i >= n) {
                        s.due("cell(0, " + i + ", 1) of " + n, x.cell(0, i, 1), Towns.LOST);
                        s.due("its FAULT", x.fault(), 3);
                    }
                }
            }
        });
    }

    private static DeputyTown counted(int lane, int n) {
        DeputyTown x = new DeputyTown();
        x.sheet(0, lane, n);
        for (int i = 0; i < n; i++) {
            x.put(0, i, i + 1);
        }
        return x;
    }

    private void copy() {
        s.test(27, "n cells of a SHEET from i on go to another one (perhaps the same) from j on, as they were: n.", () -> {
            for (int lane = 0; lane < Towns.LANES; lane++) {
                DeputyTown x = counted(lane, 5);
                x.sheet(1, lane, 4);
                s.due("the last ones to the first", x.copy(0, 3, 1, 0, 2), 2);
                dueCells("to another", x, 1, lane, 4, 5, 0, 0);
                s.due("the first ones to the last", x.copy(0, 0, 1, 1, 3), 3);
                dueCells("to another", x, 1, lane, 4, 1, 2, 3);
                dueCells("these stay", x, 0, lane, 1, 2, 3, 4, 5);
                s.due("up", x.copy(0, 0, 0, 1, 4), 4);
                dueCells("up, as they were", x, 0, lane, 1, 1, 2, 3, 4);
                s.due("down", x.copy(0, 2, 0, 0, 3), 3);
                dueCells("down, as they were", x, 0, lane, 2, 3, 4, 3, 4);
                s.due("onto themselves", x.copy(0, 0, 0, 0, 5), 5);
                dueCells("they stay", x, 0, lane, 2, 3, 4, 3, 4);
            }
            DeputyTown most = counted(2, 60);
            most.sheet(3, 2, 60);
            s.due("all 60", most.copy(0, 0, 3, 0, 60), 60);
            s.due("the first", most.cell(3, 0, 2), 1);
            s.due("the last", most.cell(3, 59, 2), 60);
        });
        s.test(27, "UNKNOWN", () -> {
            DeputyTown x = counted(2, 3);
            for (int k : Towns.noneOf(Towns.SHEETS)) {
                s.due("copy(" + k + ", 0, 0, 0, 1)", x.copy(k, 0, 0, 0, 1), Towns.UNKNOWN);
                s.due("copy(0, 0, " + k + ", 0, 1)", x.copy(0, 0, k, 0, 1), Towns.UNKNOWN);
                s.due("ahead of NULL", x.copy(1, 0, k, 0, 1), Towns.UNKNOWN);
            }
            s.due("no FAULT", x.fault(), 0);
        });
    }

    private void copyFaults() {
        s.test(27, "FAULTS NULL (the first, the other)", () -> {
            DeputyTown x = counted(2, 3);
            s.due("the first", x.copy(1, 0, 0, 0, 0), Towns.NULL);
            s.due("its FAULT", x.fault(), 1);
            s.due("the other", x.copy(0, 0, 1, 0, 0), Towns.NULL);
            s.due("both", x.copy(1, 0, 2, 0, 0), Towns.NULL);
            s.due("the same", x.copy(1, 0, 1, 0, 0), Towns.NULL);
            s.due("ahead of INDEX", x.copy(1, -1, 0, 0, 0), Towns.NULL);
            s.due("ahead of INDEX", x.copy(0, 0, 1, 0, -1), Towns.NULL);
        });
        s.test(27, "CAST (unlike LANES)", () -> {
            DeputyTown x = new DeputyTown();
            for (int k = 0; k < Towns.LANES; k++) {
                x.sheet(k, k, 3);
            }
            for (int k = 0; k < Towns.LANES; k++) {
                for (int other = 0; other < Towns.LANES; other++) {
                    s.due("from " + k + " to " + other, x.copy(k, 0, other, 0, 3), k == other ? 3 : Towns.CAST);
                    s.due("its FAULT", x.fault(), k == other ? 0 : 2);
                    s.due("none of them", x.copy(k, 0, other, 0, 0), k == other ? 0 : Towns.CAST);
                    s.due("ahead of INDEX", x.copy(k, 4, other, 0, 0), k == other ? Towns.INDEX : Towns.CAST);
                }
            }
        });
        s.test(27, "INDEX: i, j, n below 0 or beyond", () -> {
            DeputyTown x = counted(2, 6);
            x.sheet(1, 2, 3);
            int[][] beyond = {{-1, 0, 0}, {0, -1, 0}, {0, 0, -1}, {7, 0, 0}, {0, 4, 0}, {7, 4, -1}, {6, 0, 1}, {0, 3, 1},
                {4, 0, 3}, {0, 1, 3}, {0, 0, 4}, {-1, 0, 1}, {0, -1, 1}, {1, 1, -1}, {Towns.MAX, 0, 1}, {0, Towns.MAX, 1},
                {1, 1, Towns.MAX}, {0, 0, Towns.MIN}, {Towns.MIN, 0, 0}, {0, Towns.MIN, 0}, {Towns.MIN, Towns.MIN, Towns.MIN}};
            for (int[] c : beyond) {
                s.due("i " + c[0] + ", j " + c[1] + ", n " + c[2], x.copy(0, c[0], 1, c[1], c[2]), Towns.INDEX);
                s.due("its FAULT", x.fault(), 3);
            }
            dueCells("nothing came", x, 1, 2, 0, 0, 0);
            s.due("to the very ends", x.copy(0, 3, 1, 0, 3), 3);
            s.due("no FAULT", x.fault(), 0);
        });
        s.test(27, "3 INDEX (of cells from i on also where i is not 0 .. how many there are, if none of them is taken, too)", () -> {
            DeputyTown x = counted(2, 6);
            x.sheet(1, 2, 0);
            s.due("none, at both ends", x.copy(0, 6, 1, 0, 0), 0);
            s.due("none, from one behind the end", x.copy(0, 7, 1, 0, 0), Towns.INDEX);
            s.due("none, to one behind the end", x.copy(0, 6, 1, 1, 0), Towns.INDEX);
            s.due("none, from one ahead", x.copy(0, -1, 1, 0, 0), Towns.INDEX);
        });
    }

    // ---- promises 28 to 30

    private static int trace(int trace, int... bodies) {
        for (int body : bodies) {
            trace = 31 * trace + body;
        }
        return trace;
    }

    private void tell() {
        s.test(28, "TELLING of a THING.", () -> {
            for (int fit = 1; fit <= 9; fit++) {
                DeputyTown x = Towns.in("e;t1" + fit + "1;s0" + fit + "1;m0" + fit + "1");
                s.due("a THING", x.tell(0), fit);
                s.due("a SWORN one", x.tell(1), fit + 100);
                s.due("a MAYOR", x.tell(2), 2 * fit + 100);
            }
        });
        s.test(28, "THING (1): its FIT.", () -> {
            DeputyTown x = Towns.in("e;t191;t011");
            s.due("tell(0)", x.tell(0), 9);
            s.due("trace()", x.trace(), 1);
        });
        s.test(28, "SWORN (2): what THING's gives, and 100.", () -> {
            DeputyTown x = Towns.in("e;s191;t011");
            s.due("tell(0)", x.tell(0), 109);
            s.due("trace()", x.trace(), trace(0, 2, 1));
        });
        s.test(28, "MAYOR (3): what SWORN's gives, and what THING's gives (SWORN's left out).", () -> {
            DeputyTown x = Towns.in("e;m191;t011");
            s.due("tell(0)", x.tell(0), 118);
            s.due("trace()", x.trace(), trace(0, 3, 2, 1, 1));
        });
        s.test(28, "UNKNOWN", () -> {
            for (int things = 2; things <= 8; things++) {
                DeputyTown x = Towns.in(Towns.plain(things));
                for (int t : Towns.noneOf(things)) {
                    s.due("tell(" + t + ") of " + things, x.tell(t), Towns.UNKNOWN);
                }
                s.due("no body began", x.trace(), 0);
            }
            s.due("without a TOWN", new DeputyTown().tell(0), Towns.UNKNOWN);
        });
    }

    private void call() {
        s.test(29, "How one RINGS for it.", () -> {
            DeputyTown x = Towns.in("e;t111;s011;m011;t011;t011;t011;t011;s011");
            int[] want = {0, 1, 20, 3, 4, 5, 6, 7};
            for (int t = 0; t < 8; t++) {
                s.due("call(" + t + ")", x.call(t), want[t]);
            }
        });
        s.test(29, "RUNG for by a lent body (4): the THING's number; MAYORS have their own (5): 20.", () -> {
            DeputyTown x = Towns.in("e;t111;s011;m011");
            s.due("a THING", x.call(0), 0);
            s.due("trace()", x.trace(), 4);
            s.due("a SWORN one", x.call(1), 1);
            s.due("trace()", x.trace(), trace(0, 4, 4));
            s.due("a MAYOR", x.call(2), 20);
            s.due("trace()", x.trace(), trace(0, 4, 4, 5));
        });
        s.test(29, "UNKNOWN", () -> {
            for (int things = 2; things <= 8; things++) {
                DeputyTown x = Towns.in(Towns.plain(things));
                for (int t : Towns.noneOf(things)) {
                    s.due("call(" + t + ") of " + things, x.call(t), Towns.UNKNOWN);
                }
                s.due("no body began", x.trace(), 0);
            }
            s.due("without a TOWN", new DeputyTown().call(0), Towns.UNKNOWN);
        });
    }

    private void as() {
        s.test(30, "A THING, taken as one of a kind: 1.", () -> {
            DeputyTown x = Towns.in("e;t111;s011;m011");
            for (int t = 0; t < 3; t++) {
                for (int kind = 0; kind <= t; kind++) {
                    s.due("as(" + t + ", " + kind + ")", x.as(t, kind), 1);
                    s.due("no FAULT", x.fault(), 0);
                }
            }
        });
        s.test(30, "Kinds: 0 THING (t); 1 SWORN (s), a THING; 2 MAYOR (m), a SWORN.", () -> {
            DeputyTown x = Towns.in("e;m111;s011");
            s.due("a MAYOR is a MAYOR", x.as(0, 2), 1);
            s.due("a MAYOR is a SWORN one", x.as(0, 1), 1);
            s.due("a MAYOR is a THING", x.as(0, 0), 1);
            s.due("a SWORN one is no MAYOR", x.as(1, 2), Towns.CAST);
            s.due("a SWORN one is a THING", x.as(1, 0), 1);
        });
        s.test(30, "CAST: it is none.", () -> {
            DeputyTown x = Towns.in("e;t111;s011;m011");
            for (int t = 0; t < 3; t++) {
                for (int kind = t + 1; kind < 3; kind++) {
                    s.due("as(" + t + ", " + kind + ")", x.as(t, kind), Towns.CAST);
                    s.due("its FAULT", x.fault(), 2);
                }
            }
        });
        s.test(30, "UNKNOWN", () -> {
            for (int things = 2; things <= 8; things++) {
                DeputyTown x = Towns.in(Towns.plain(things));
                for (int t : Towns.noneOf(things)) {
                    s.due("as(" + t + ", 0) of " + things, x.as(t, 0), Towns.UNKNOWN);
                    s.due("ahead of OUTSIDE", x.as(t, 3), Towns.UNKNOWN);
                }
            }
            s.due("without a TOWN", new DeputyTown().as(0, 0), Towns.UNKNOWN);
        });
        s.test(30, "OUTSIDE", () -> {
            DeputyTown x = Towns.in("e;m111;t011");
            for (int kind : Towns.noneOf(3)) {
                s.due("as(0, " + kind + ")", x.as(0, kind), Towns.OUTSIDE);
                s.due("as(1, " + kind + ")", x.as(1, kind), Towns.OUTSIDE);
                s.due("no FAULT", x.fault(), 0);
            }
        });
    }

    // ---- promises 31 to 33

    private void traceAndFault() {
        s.test(31, "TRACE.", () -> {
            DeputyTown x = Towns.in(Towns.plain(2));
            s.due("0 at first", x.trace(), 0);
            x.tell(0);
            s.due("behind a body", x.trace(), 1);
            s.due("to ask for it leaves it", x.trace(), 1);
        });
        s.test(31, "TELLING of THINGS by bodies that leave their number in TRACE (an int that wraps, 0 at first, becomes 31 times it and the number) as they begin:", () -> {
            DeputyTown x = Towns.in("e;m111;s011;t011");
            s.due("0 at first", x.trace(), 0);
            int trace = 0;
            int below = 0;
            for (int round = 0; round < 60; round++) {
                int t = round % 3;
                x.tell(t);
                trace = t == 0 ? trace(trace, 3, 2, 1, 1) : t == 1 ? trace(trace, 2, 1) : trace(trace, 1);
                s.due("told " + round, x.trace(), trace);
                x.call(t);
                trace = trace(trace, t == 0 ? 5 : 4);
                s.due("rung for " + round, x.trace(), trace);
                below += trace < 0 ? 1 : 0;
            }
            s.due("it was below 0, too, and above it", below > 0 && below < 60 ? 1 : 0, 1);
        });
        s.test(32, "The FAULT of the latest call that names one: 0: it came to none, or was refused (0 ahead of any).", () -> {
            DeputyTown x = new DeputyTown();
            s.due("ahead of any", x.fault(), 0);
            Towns.townBy(x, Towns.plain(2));
            s.due("ahead of any FAULT", x.fault(), 0);
            for (int fault = 1; fault <= 4; fault++) {
                for (int call = 0; call < 14; call++) {
                    comeTo(x, fault);
                    s.due("FAULT " + fault, x.fault(), fault);
                    boolean isNamed = namesFaults(x, call);
                    s.due("call " + call + " behind FAULT " + fault, x.fault(), isNamed ? 0 : fault);
                }
            }
        });
    }

    private static void comeTo(DeputyTown x, int fault) {
        switch (fault) {
            case 1: x.put(0, 0, 0); break;
            case 2: x.as(0, 2); break;
            case 3: x.put(3, 60, 0); break;
            default: x.sheet(0, 0, -1); break;
        }
    }

    /** One of the calls, that is refused or comes to no FAULT: is it one that names FAULTS? */
    private static boolean namesFaults(DeputyTown x, int call) {
        switch (call) {
            case 0: x.town(4, 0, 0, 0); return true;
            case 1: x.roster(3, 0, 0, 0); return true;
            case 2: x.sheet(1, 0, 61); return true;
            case 3: x.sheet(1, 0, 3); return true;
            case 4: x.put(1, 0, 1); return true;
            case 5: x.cell(4, 0, 0); return true;
            case 6: x.copy(1, 0, 1, 1, 2); return true;
            case 7: x.as(1, 3); return true;
            case 8: x.town(3, 0, 0, 11); return true;
            case 9: x.lose(4); return false;
            case 10: x.tell(0); return false;
            case 11: x.call(9); return false;
            case 12: x.reading(9, 9); return false;
            default: x.odds(0, 2); return false;
        }
    }

    private void many() {
        s.test(33, "How many: 0 THINGS, 1 BREAKS, 2 READINGS, 3 the LAW (0 all without a TOWN).", () -> {
            DeputyTown x = new DeputyTown();
            for (int what = 0; what < 4; what++) {
                s.due("without a TOWN: many(" + what + ")", x.many(what), 0);
            }
            Towns.townBy(x, Towns.plain(7));
            for (int k = 0; k < 8; k++) {
                x.smash(0, k, k);
                s.due("BREAKS", x.many(1), k + 1);
                s.due("READINGS", x.many(2), k);
                x.reading(0, 0);
            }
            x.law(2);
            s.due("THINGS", x.many(0), 7);
            s.due("READINGS", x.many(2), 8);
            s.due("the LAW", x.many(3), 2);
        });
        s.test(33, "OUTSIDE.", () -> {
            DeputyTown x = new DeputyTown();
            for (int what : Towns.noneOf(4)) {
                s.due("many(" + what + ")", x.many(what), Towns.OUTSIDE);
            }
        });
    }
}
