import java.util.ArrayList;
import java.util.Collections;
import java.util.List;
import java.util.TreeSet;

/**
 * Long runs of calls, drawn by a fixed seed, against a second program written from the document
 * alone: sets as sets, TIRED as a look back over HOURS, kinds as classes that inherit.
 */
public final class ModelTest {
    private static final int RUNS = 1500, CALLS = 512;

    private final Checks checks = new Checks();
    private long seed = 20261118;

    public static void main(String[] args) {
        ModelTest test = new ModelTest();
        for (int run = 0; run < RUNS && test.checks.allRight(); run++) {
            test.run(run);
        }
        test.checks.end();
    }

    private int draw(int below) {
        seed = seed * 6364136223846793005L + 1442695040888963407L;
        return (int) ((seed >>> 33) % below);
    }

    /** Mostly 0 .. below - 1, at times a little or far beyond. */
    private int number(int below) {
        int luck = draw(40);
        if (luck == 0) {
            return -1;
        }
        if (luck == 1) {
            return below;
        }
        if (luck == 2) {
            int[] far = {Integer.MIN_VALUE, Integer.MAX_VALUE, -9, -10, 61, 1 << 16, 31, 32};
            return far[draw(far.length)];
        }
        return draw(Math.max(below, 1));
    }

    private void run(int run) {
        DeputyTown x = new DeputyTown();
        Model m = new Model();
        StringBuilder told = new StringBuilder("run " + run + ": ");
        int calls = 0;
        boolean writes = draw(8) != 0;
        if (writes) {
            calls += tellTown(x, m, told);
        }
        int lawOften = draw(3);
        while (calls < CALLS && checks.allRight()) {
            if (draw(150) == 0 && calls < CALLS - 60) {
                calls += tellTown(x, m, told);
            } else if (draw(25) == 0) {
                one(x, m, new int[] {2, lawOften}, told);
                calls++;
            } else if (draw(60) == 0 && calls < CALLS - 12) {
                calls += tellRoster(x, m, told);
            } else {
                one(x, m, anyCall(m), told);
                calls++;
            }
        }
    }

    private int tellTown(DeputyTown x, Model m, StringBuilder told) {
        int things = 2 + draw(7);
        StringBuilder text = new StringBuilder("e");
        for (int t = 0; t < things; t++) {
            int deputy = draw(things);
            deputy = deputy == t && draw(60) != 0 ? (t + 1) % things : deputy;
            int tires = draw(3) == 0 ? 1 + draw(9) : 1 + draw(3);
            text.append(';').append("tsm".charAt(draw(3))).append(deputy).append(1 + draw(9)).append(tires);
        }
        if (draw(6) == 0) {
            String odd = ";tsm0123456789e:/ux";
            text.setCharAt(draw(text.length()), odd.charAt(draw(odd.length())));
        }
        if (draw(10) == 0) {
            text.setLength(draw(text.length() + 1));
        }
        int sheet = draw(4), lane = draw(3), lead = draw(4);
        int calls = 2;
        one(x, m, new int[] {22, sheet, lane, lead + text.length() + draw(3)}, told);
        for (int i = 0; i < text.length(); i++, calls++) {
            one(x, m, new int[] {24, sheet, lead + i, text.charAt(i)}, told);
        }
        one(x, m, new int[] {0, sheet, lane, lead, text.length()}, told);
        return calls;
    }

    /** A ROSTER that is as it is, but perhaps for one cell. */
    private int tellRoster(DeputyTown x, Model m, StringBuilder told) {
        int sheet = draw(4), lane = draw(3), n = m.things.size();
        one(x, m, new int[] {22, sheet, lane, n}, told);
        int odd = draw(2 * n + 1);
        for (int use = 0; use < n; use++) {
            int who = use == odd ? number(n) : m.by(use, 0);
            one(x, m, new int[] {24, sheet, use, who}, told);
        }
        one(x, m, new int[] {16, sheet, lane, 0, n}, told);
        return n + 2;
    }

    private int[] anyCall(Model m) {
        int n = m.things.size();
        int call = draw(34);
        switch (call) {
            case 0: return new int[] {0, number(4), number(3), number(12), number(50)};
            case 1: return new int[] {1, number(n), number(5)};
            case 2: return new int[] {2, number(3)};
            case 3: return new int[] {3, number(n), number(n)};
            case 4: {
                int from = draw(3) == 0 ? 0 : number(30);
                return new int[] {4, number(n), from, draw(3) == 0 ? 29 : from + number(12)};
            }
            case 5: return new int[] {5, number(3)};
            case 6: case 32: case 33: return new int[] {6, number(n), number(30)};
            case 7: return new int[] {7, number(30)};
            case 8: return new int[] {8, number(30)};
            case 10: return new int[] {10, number(2)};
            case 11: return new int[] {11, number(n + 1), number(2)};
            case 12: return new int[] {12, number(n)};
            case 13: return new int[] {13, number(2)};
            case 14: return new int[] {14, number(n)};
            case 16: return new int[] {16, number(4), number(3), number(12), draw(3) == 0 ? number(9) : n};
            case 17: return new int[] {17, number(n), draw(4) == 0 ? -9 : number(n)};
            case 18: return new int[] {18, number(3)};
            case 19: return new int[] {19, number(3)};
            case 21: return new int[] {21, number(n), number(2)};
            case 22: return new int[] {22, number(4), number(3), number(61)};
            case 23: return new int[] {23, number(4)};
            case 24: return new int[] {24, number(4), number(60), draw(2) == 0 ? draw(12) - 4 : (int) seed};
            case 25: return new int[] {25, number(4), number(60), number(3)};
            case 26: return new int[] {26, number(4), number(20), number(4), number(20), number(12)};
            case 27: return new int[] {27, number(n)};
            case 28: return new int[] {28, number(n)};
            case 29: return new int[] {29, number(n), number(3)};
            case 30: return new int[] {31, number(4)};
            case 31: return new int[] {32};
            default: return new int[] {call};
        }
    }

    private void one(DeputyTown x, Model m, int[] c, StringBuilder told) {
        told.append(java.util.Arrays.toString(c)).append(' ');
        long want = ask(m, c);
        long got = ask(x, c);
        if (got != want) {
            checks.due(told.toString(), got, want);
        } else {
            checks.due("", got, want);
        }
        // These two hang on all that went before.
        checks.due("fault behind", x.fault(), m.fault);
        checks.due("trace behind", x.trace(), m.trace);
    }

    private static long ask(DeputyTown x, int[] c) {
        switch (c[0]) {
            case 0: return x.town(c[1], c[2], c[3], c[4]);
            case 1: return x.ofThing(c[1], c[2]);
            case 2: return x.law(c[1]);
            case 3: return x.depute(c[1], c[2]);
            case 4: return x.smash(c[1], c[2], c[3]);
            case 5: return x.glue(c[1]);
            case 6: return x.by(c[1], c[2]);
            case 7: return x.undone(c[1]);
            case 8: return x.serves(c[1]);
            case 9: return x.ring();
            case 10: return x.first(c[1]);
            case 11: return x.frail(c[1], c[2]);
            case 12: return x.plot(c[1]);
            case 13: return x.mend(c[1]);
            case 14: return x.wave(c[1]);
            case 16: return x.roster(c[1], c[2], c[3], c[4]);
            case 17: return x.reading(c[1], c[2]);
            case 18: return x.back(c[1]);
            case 19: return x.failed(c[1]);
            case 20: return x.laws();
            case 21: return x.odds(c[1], c[2]);
            case 22: return x.sheet(c[1], c[2], c[3]);
            case 23: return x.lose(c[1]);
            case 24: return x.put(c[1], c[2], c[3]);
            case 25: return x.cell(c[1], c[2], c[3]);
            case 26: return x.copy(c[1], c[2], c[3], c[4], c[5]);
            case 27: return x.tell(c[1]);
            case 28: return x.call(c[1]);
            case 29: return x.as(c[1], c[2]);
            case 31: return x.many(c[1]);
            case 32: return x.fault();
            default: return x.trace();
        }
    }

    private static long ask(Model m, int[] c) {
        switch (c[0]) {
            case 0: return m.town(c[1], c[2], c[3], c[4]);
            case 1: return m.ofThing(c[1], c[2]);
            case 2: return m.law(c[1]);
            case 3: return m.depute(c[1], c[2]);
            case 4: return m.smash(c[1], c[2], c[3]);
            case 5: return m.glue(c[1]);
            case 6: return m.askBy(c[1], c[2]);
            case 7: return m.undone(c[1]);
            case 8: return m.serves(c[1]);
            case 9: return m.ring();
            case 10: return m.first(c[1]);
            case 11: return m.frail(c[1], c[2]);
            case 12: return m.plot(c[1]);
            case 13: return m.mend(c[1]);
            case 14: return m.wave(c[1]);
            case 16: return m.roster(c[1], c[2], c[3], c[4]);
            case 17: return m.reading(c[1], c[2]);
            case 18: return m.back(c[1]);
            case 19: return m.failed(c[1]);
            case 20: return m.laws();
            case 21: return m.odds(c[1], c[2]);
            case 22: return m.sheet(c[1], c[2], c[3]);
            case 23: return m.lose(c[1]);
            case 24: return m.put(c[1], c[2], c[3]);
            case 25: return m.cell(c[1], c[2], c[3]);
            case 26: return m.copy(c[1], c[2], c[3], c[4], c[5]);
            case 27: return m.tell(c[1]);
            case 28: return m.call(c[1]);
            case 29: return m.as(c[1], c[2]);
            case 31: return m.many(c[1]);
            case 32: return m.fault;
            default: return m.trace;
        }
    }

    interface Rung {
        int number();

        Model model();

        default int ring() {
            model().leave(4);
            return number();
        }
    }

    static class Plain implements Rung {
        final Model model;
        final int number, fit, lasts;
        int deputy;

        Plain(Model model, int number, int deputy, int fit, int lasts) {
            this.model = model;
            this.number = number;
            this.deputy = deputy;
            this.fit = fit;
            this.lasts = lasts;
        }

        @Override public int number() {
            return number;
        }

        @Override public Model model() {
            return model;
        }

        int good() {
            return fit;
        }

        final int plainTelling() {
            model.leave(1);
            return fit;
        }

        int telling() {
            return plainTelling();
        }
    }

    static class Sworn extends Plain {
        Sworn(Model model, int number, int deputy, int fit, int lasts) {
            super(model, number, deputy, fit, lasts);
        }

        @Override int good() {
            return super.good() + 1;
        }

        @Override int telling() {
            model.leave(2);
            return super.telling() + 100;
        }
    }

    static final class Mayor extends Sworn {
        Mayor(Model model, int number, int deputy, int fit, int lasts) {
            super(model, number, deputy, fit, lasts);
        }

        @Override int good() {
            return 2 * super.good();
        }

        @Override int telling() {
            model.leave(3);
            return super.telling() + plainTelling();
        }

        @Override public int ring() {
            model.leave(5);
            return 20;
        }
    }

    static final class Row {
        int lane;
        List<Integer> cells = new ArrayList<>();
    }

    static final class Model {
        List<Plain> things = new ArrayList<>();
        List<int[]> breaks = new ArrayList<>();
        List<int[]> readings = new ArrayList<>();
        Row[] rows = new Row[4];
        int law, fault, trace;

        void leave(int body) {
            trace = trace * 31 + body;
        }

        boolean is(int t) {
            return 0 <= t && t < things.size();
        }

        boolean among(int v, int from, int to) {
            return from <= v && v <= to;
        }

        int failing(int f) {
            fault = f;
            return -10 - f;
        }

        // ---- 1

        int faultOf(Row r, int lane, int i, int n) {
            if (r != null && r.lane != lane) {
                return 2;
            }
            if (r == null) {
                return 1;
            }
            if (n < 0) {
                return 4;
            }
            return i < 0 || (long) i + n > r.cells.size() ? 3 : 0;
        }

        int town(int sheet, int lane, int i, int n) {
            fault = 0;
            if (!among(sheet, 0, 3)) {
                return -1;
            }
            if (!among(lane, 0, 2)) {
                return -2;
            }
            int f = faultOf(rows[sheet], lane, i, n);
            if (f != 0) {
                return failing(f);
            }
            List<Integer> text = rows[sheet].cells.subList(i, i + n);
            int firstFault = firstFault(text);
            if (firstFault >= 0) {
                return -100 - firstFault;
            }
            things = new ArrayList<>();
            breaks.clear();
            readings.clear();
            law = 0;
            for (int at = 1; at < n; at += 5) {
                int number = things.size(), deputy = text.get(at + 2) - '0';
                int fit = text.get(at + 3) - '0', lasts = text.get(at + 4) - '0';
                int letter = text.get(at + 1);
                things.add(letter == 't' ? new Plain(this, number, deputy, fit, lasts)
                        : letter == 's' ? new Sworn(this, number, deputy, fit, lasts)
                        : new Mayor(this, number, deputy, fit, lasts));
            }
            return things.size();
        }

        /** The longest beginning that some TEXT of eight THINGS has, too, tells the place. */
        int firstFault(List<Integer> text) {
            StringBuilder s = new StringBuilder();
            for (int code : text) {
                s.append(code >= 0 && code < 128 ? (char) code : '?');
            }
            String rest = "";
            for (int t = 7; t >= 0; t--) {
                String others = "01234567".replace("" + t, "");
                rest = "(;([tsm]([" + others + "]([1-9]([1-9]" + rest + ")?)?)?)?)?";
            }
            java.util.regex.Matcher m = java.util.regex.Pattern.compile("(e" + rest + ")?").matcher(s);
            m.lookingAt();
            if (m.end() < s.length()) {
                return m.end();
            }
            int n = s.length();
            if (n < 11 || n % 5 != 1) {
                return n;
            }
            for (int at = 3; at < n; at += 5) {
                if (s.charAt(at) - '0' >= n / 5) {
                    return at;
                }
            }
            return -1;
        }

        int ofThing(int t, int what) {
            if (!is(t)) {
                return -1;
            }
            Plain p = things.get(t);
            int kind = p instanceof Mayor ? 2 : p instanceof Sworn ? 1 : 0;
            int[] all = {kind, p.deputy, p.fit, p.lasts, p.good()};
            return among(what, 0, 4) ? all[what] : -2;
        }

        int law(int v) {
            if (!among(v, 0, 2)) {
                return -2;
            }
            if (things.isEmpty()) {
                return -3;
            }
            int was = law;
            law = v;
            return was;
        }

        int depute(int t, int other) {
            if (!is(t) || !is(other)) {
                return -1;
            }
            if (t == other) {
                return -2;
            }
            int was = things.get(t).deputy;
            things.get(t).deputy = other;
            return was;
        }

        int smash(int t, int from, int to) {
            if (!is(t)) {
                return -1;
            }
            if (!among(from, 0, 29) || !among(to, from, 29)) {
                return -2;
            }
            if (breaks.size() == 8) {
                return -4;
            }
            breaks.add(new int[] {t, from, to});
            return breaks.size() - 1;
        }

        int takeOff(List<int[]> list, int k) {
            if (!among(k, 0, list.size())) {
                return -2;
            }
            list.subList(list.size() - k, list.size()).clear();
            return list.size();
        }

        int glue(int k) {
            return takeOff(breaks, k);
        }

        // ---- 2

        TreeSet<Integer> broken(int hour) {
            TreeSet<Integer> set = new TreeSet<>();
            for (int[] b : breaks) {
                if (among(hour, b[1], b[2])) {
                    set.add(b[0]);
                }
            }
            return set;
        }

        List<Integer> rowOf(int use) {
            List<Integer> row = new ArrayList<>();
            for (int x = things.get(use).deputy; x != use && !row.contains(x); x = things.get(x).deputy) {
                row.add(x);
            }
            return row;
        }

        /** By whom each USE is SERVED in an HOUR, told what was in all HOURS ahead of it. */
        int[] hour(List<int[]> ahead, TreeSet<Integer> broken, int byLaw) {
            int[] by = new int[things.size()];
            List<Integer> standing = new ArrayList<>();
            for (int use = 0; use < by.length; use++) {
                if (!broken.contains(use)) {
                    by[use] = use;
                    continue;
                }
                List<Integer> may = new ArrayList<>();
                for (int x : rowOf(use)) {
                    if (!broken.contains(x) && !tired(ahead, use, x)) {
                        may.add(x);
                    }
                }
                if (byLaw == 1) {
                    may.removeAll(standing);
                } else if (byLaw == 2) {
                    may.sort((a, b) -> things.get(b).good() - things.get(a).good());
                }
                by[use] = may.isEmpty() ? -9 : may.get(0);
                standing.add(by[use]);
            }
            return by;
        }

        boolean tired(List<int[]> ahead, int use, int x) {
            int lasts = things.get(x).lasts;
            if (ahead.size() < lasts) {
                return false;
            }
            for (int[] by : ahead.subList(ahead.size() - lasts, ahead.size())) {
                if (by[use] != x) {
                    return false;
                }
            }
            return true;
        }

        List<int[]> hours(int last) {
            List<int[]> all = new ArrayList<>();
            for (int h = 0; h <= last; h++) {
                all.add(hour(all, broken(h), law));
            }
            return all;
        }

        int by(int use, int hour) {
            return hours(hour).get(hour)[use];
        }

        int[] zero(TreeSet<Integer> broken) {
            return hour(Collections.emptyList(), broken, law);
        }

        int undoneOf(int[] by) {
            int set = 0;
            for (int use = 0; use < by.length; use++) {
                set += by[use] == -9 ? 1 << use : 0;
            }
            return set;
        }

        int servesOf(int[] by) {
            int sum = 0;
            for (int use = 0; use < by.length; use++) {
                sum += by[use] == use ? 100 : by[use] == -9 ? 0 : Math.min(99, 10 * things.get(by[use]).good());
            }
            return sum;
        }

        int refusal(int v, int to) {
            return !among(v, 0, to) ? -2 : things.isEmpty() ? -3 : 0;
        }

        int askBy(int use, int hour) {
            return !is(use) ? -1 : !among(hour, 0, 29) ? -2 : by(use, hour);
        }

        int undone(int hour) {
            int r = refusal(hour, 29);
            return r != 0 ? r : undoneOf(hours(hour).get(hour));
        }

        int serves(int hour) {
            int r = refusal(hour, 29);
            return r != 0 ? r : servesOf(hours(hour).get(hour));
        }

        // ---- 3

        int ring() {
            if (things.isEmpty()) {
                return -3;
            }
            int set = 0;
            for (int t = 0; t < things.size(); t++) {
                List<Integer> row = rowOf(t);
                set += things.get(row.get(row.size() - 1)).deputy == t ? 1 << t : 0;
            }
            return set;
        }

        int first(int what) {
            int r = refusal(what, 1);
            if (r != 0) {
                return r;
            }
            List<int[]> all = hours(29);
            for (int h = 0; h < 30; h++) {
                for (int use = 0; use < things.size(); use++) {
                    if (all.get(h)[use] == -9) {
                        return what == 0 ? h : use;
                    }
                }
            }
            return -9;
        }

        TreeSet<Integer> asSet(int bits) {
            TreeSet<Integer> set = new TreeSet<>();
            for (int t = 0; t < things.size(); t++) {
                if (bits / (1 << t) % 2 == 1) {
                    set.add(t);
                }
            }
            return set;
        }

        int all() {
            return 1 << things.size();
        }

        int[] frailest(int k) {
            int[] best = {-1, -1};
            for (int s = 0; s < all(); s++) {
                int undone = asSet(s).size() == k ? Integer.bitCount(undoneOf(zero(asSet(s)))) : -1;
                if (undone > best[1]) {
                    best = new int[] {s, undone};
                }
            }
            return best;
        }

        int frail(int k, int what) {
            if (things.isEmpty()) {
                return -3;
            }
            return !among(k, 0, things.size()) || !among(what, 0, 1) ? -2 : frailest(k)[what];
        }

        int plot(int use) {
            if (!is(use)) {
                return -1;
            }
            for (int k = 0; k <= things.size(); k++) {
                for (int s = 0; s < all(); s++) {
                    if (asSet(s).size() == k && zero(asSet(s))[use] == -9) {
                        return s;
                    }
                }
            }
            return -9;
        }

        int mend(int what) {
            int r = refusal(what, 1);
            if (r != 0) {
                return r;
            }
            int[] best = {-9, frailest(2)[1]};
            for (int t = 0; t < things.size(); t++) {
                int own = things.get(t).deputy;
                for (int d = 0; d < things.size(); d++) {
                    things.get(t).deputy = d == t ? own : d;
                    int undone = frailest(2)[1];
                    if (undone < best[1]) {
                        best = new int[] {10 * t + d, undone};
                    }
                }
                things.get(t).deputy = own;
            }
            return best[what];
        }

        int wave(int t) {
            if (!is(t)) {
                return -1;
            }
            TreeSet<Integer> then = broken(0);
            then.add(t);
            return servesOf(zero(broken(0))) - servesOf(zero(then)) + 1000;
        }

        int roster(int sheet, int lane, int i, int n) {
            fault = 0;
            if (!among(sheet, 0, 3)) {
                return -1;
            }
            if (!among(lane, 0, 2)) {
                return -2;
            }
            if (things.isEmpty()) {
                return -3;
            }
            int f = faultOf(rows[sheet], lane, i, n);
            if (f != 0) {
                return failing(f);
            }
            if (n != things.size()) {
                return -2;
            }
            List<Integer> cells = rows[sheet].cells.subList(i, i + n);
            for (int c : cells) {
                if (!is(c) && c != -9) {
                    return -1;
                }
            }
            for (int use = 0; use < n; use++) {
                if (zero(broken(0))[use] != cells.get(use)) {
                    return use;
                }
            }
            return -9;
        }

        // ---- 4

        int reading(int use, int t) {
            if (!is(use) || !is(t) && t != -9) {
                return -1;
            }
            if (readings.size() == 8) {
                return -4;
            }
            readings.add(new int[] {use, t});
            return readings.size() - 1;
        }

        int back(int k) {
            return takeOff(readings, k);
        }

        boolean allSo(int[] by) {
            for (int[] r : readings) {
                if (by[r[0]] != r[1]) {
                    return false;
                }
            }
            return true;
        }

        int failed(int what) {
            int r = refusal(what, 2);
            if (r != 0) {
                return r;
            }
            List<Integer> sets = new ArrayList<>();
            for (int s = 0; s < all(); s++) {
                if (allSo(zero(asSet(s)))) {
                    sets.add(s);
                }
            }
            if (what == 0) {
                return sets.size();
            }
            if (sets.isEmpty()) {
                return -9;
            }
            if (what == 1) {
                sets.sort((a, b) -> asSet(a).size() - asSet(b).size());
                return sets.get(0);
            }
            TreeSet<Integer> inAll = asSet(all() - 1);
            for (int s : sets) {
                inAll.retainAll(asSet(s));
            }
            int bits = 0;
            for (int t : inAll) {
                bits += 1 << t;
            }
            return bits;
        }

        int laws() {
            if (things.isEmpty()) {
                return -3;
            }
            int set = 0;
            for (int v = 0; v < 3; v++) {
                set += allSo(hour(Collections.emptyList(), broken(0), v)) ? 1 << v : 0;
            }
            return set;
        }

        long odds(int use, int which) {
            if (!is(use) || !among(which, 0, 1)) {
                return Long.MIN_VALUE;
            }
            int served = 0;
            for (int s = 0; s < all(); s++) {
                served += zero(asSet(s))[use] != -9 ? 1 : 0;
            }
            int gcd = java.math.BigInteger.valueOf(served).gcd(java.math.BigInteger.valueOf(all())).intValue();
            return (which == 0 ? served : all()) / gcd;
        }

        // ---- 5

        int sheet(int k, int lane, int n) {
            fault = 0;
            if (!among(k, 0, 3)) {
                return -1;
            }
            if (!among(lane, 0, 2) || n > 60) {
                return -2;
            }
            if (n < 0) {
                return failing(4);
            }
            rows[k] = new Row();
            rows[k].lane = lane;
            rows[k].cells.addAll(Collections.nCopies(n, 0));
            return 1;
        }

        int lose(int k) {
            if (!among(k, 0, 3)) {
                return -1;
            }
            int had = rows[k] == null ? 0 : 1;
            rows[k] = null;
            return had;
        }

        int put(int k, int i, int v) {
            fault = 0;
            if (!among(k, 0, 3)) {
                return -1;
            }
            if (rows[k] == null) {
                return failing(1);
            }
            if (!among(i, 0, rows[k].cells.size() - 1)) {
                return failing(3);
            }
            int bits = 8 << rows[k].lane;
            rows[k].cells.set(i, v << 32 - bits >> 32 - bits);
            return 1;
        }

        long cell(int k, int i, int lane) {
            fault = 0;
            if (!among(k, 0, 3) || !among(lane, 0, 2)) {
                return Long.MIN_VALUE;
            }
            fault = rows[k] == null ? 1 : rows[k].lane != lane ? 2 : among(i, 0, rows[k].cells.size() - 1) ? 0 : 3;
            return fault == 0 ? rows[k].cells.get(i) : Long.MIN_VALUE;
        }

        int copy(int k, int i, int other, int j, int n) {
            fault = 0;
            if (!among(k, 0, 3) || !among(other, 0, 3)) {
                return -1;
            }
            Row from = rows[k], to = rows[other];
            if (from == null || to == null) {
                return failing(1);
            }
            if (from.lane != to.lane) {
                return failing(2);
            }
            if (i < 0 || j < 0 || n < 0 || (long) i + n > from.cells.size() || (long) j + n > to.cells.size()) {
                return failing(3);
            }
            List<Integer> taken = new ArrayList<>(from.cells.subList(i, i + n));
            for (int c = 0; c < n; c++) {
                to.cells.set(j + c, taken.get(c));
            }
            return n;
        }

        int tell(int t) {
            return is(t) ? things.get(t).telling() : -1;
        }

        int call(int t) {
            return is(t) ? things.get(t).ring() : -1;
        }

        int as(int t, int kind) {
            fault = 0;
            if (!is(t)) {
                return -1;
            }
            if (!among(kind, 0, 2)) {
                return -2;
            }
            Class<?>[] kinds = {Plain.class, Sworn.class, Mayor.class};
            return kinds[kind].isInstance(things.get(t)) ? 1 : failing(2);
        }

        int many(int what) {
            int[] all = {things.size(), breaks.size(), readings.size(), law};
            return among(what, 0, 3) ? all[what] : -2;
        }
    }
}
