import java.util.Arrays;

/** A town in which by statute everything has a deputy; ../shared/DOC.md tells what each call does. */
public final class DeputyTown {
    public static final int UNKNOWN = -1, OUTSIDE = -2, STATE = -3, FULL = -4, NONE = -9;
    public static final long LOST = Long.MIN_VALUE;

    private static final int NO_FAULT = 0, NULL_FAULT = 1, CAST_FAULT = 2, INDEX_FAULT = 3, SIZE_FAULT = 4;
    private static final int KIND_THING = 0, KIND_SWORN = 1, KIND_MAYOR = 2;
    private static final int LAW_FIRST = 0, LAW_ONE_EACH = 1, LAW_BEST = 2;
    private static final int LANE_BYTES = 0, LANE_SHORTS = 1, LANE_INTS = 2;
    private static final int MOST_THINGS = 8, MOST_BREAKS = 8, MOST_READINGS = 8;
    private static final int MOST_HOURS = 30, MOST_SHEETS = 4, MOST_CELLS = 60;

    private final Sheet[] sheets = new Sheet[MOST_SHEETS];
    private final Town folk = new Town();
    private final Breaks breaks = new Breaks();
    private final Readings readings = new Readings();
    private final Service service = new Service(folk);
    private final Trials trials = new Trials(folk, service);
    private final Bodies bodies = new Bodies();
    private int latestFault = NO_FAULT;

    public DeputyTown() {
        for (int k = 0; k < MOST_SHEETS; k++) {
            sheets[k] = new Sheet();
        }
    }

    // ---- 1 the town

    public int town(int sheet, int lane, int i, int n) {
        latestFault = NO_FAULT;
        Sheet from = sheetAt(sheet);
        if (from == null) {
            return UNKNOWN;
        }
        if (isBeyond(lane, LANE_INTS)) {
            return OUTSIDE;
        }
        int fault = from.rangeFault(lane, i, n);
        if (fault != NO_FAULT) {
            return cameTo(fault);
        }
        int firstFault = Text.firstFault(from, i, n);
        if (firstFault != NONE) {
            return -100 - firstFault;
        }
        folk.settle(from, i, Text.thingsIn(n));
        breaks.count = 0;
        readings.count = 0;
        return folk.count;
    }

    public int ofThing(int t, int what) {
        Thing thing = folk.thingAt(t);
        if (thing == null) {
            return UNKNOWN;
        }
        switch (what) {
            case 0: return thing.kind;
            case 1: return thing.deputy;
            case 2: return thing.fit;
            case 3: return thing.lasts;
            case 4: return thing.good;
            default: return OUTSIDE;
        }
    }

    public int law(int v) {
        if (isBeyond(v, LAW_BEST)) {
            return OUTSIDE;
        }
        if (folk.count == 0) {
            return STATE;
        }
        int was = folk.law;
        folk.law = v;
        return was;
    }

    public int depute(int t, int other) {
        Thing thing = folk.thingAt(t);
        if (thing == null || folk.thingAt(other) == null) {
            return UNKNOWN;
        }
        if (t == other) {
            return OUTSIDE;
        }
        int was = thing.deputy;
        thing.deputy = other;
        return was;
    }

    public int smash(int t, int from, int to) {
        if (folk.thingAt(t) == null) {
            return UNKNOWN;
        }
        if (isBeyond(from, MOST_HOURS - 1) || isBeyond(to, MOST_HOURS - 1) || to < from) {
            return OUTSIDE;
        }
        return breaks.add(t, from, to);
    }

    public int glue(int k) {
        if (isBeyond(k, breaks.count)) {
            return OUTSIDE;
        }
        breaks.count -= k;
        return breaks.count;
    }

    // ---- 2 hours

    public int by(int use, int hour) {
        if (folk.thingAt(use) == null) {
            return UNKNOWN;
        }
        if (isBeyond(hour, MOST_HOURS - 1)) {
            return OUTSIDE;
        }
        service.workUpTo(hour, breaks);
        return service.serverOf(use);
    }

    public int undone(int hour) {
        int refusal = refusalOf(hour, MOST_HOURS - 1);
        if (refusal != 0) {
            return refusal;
        }
        service.workUpTo(hour, breaks);
        return service.undoneUses();
    }

    public int serves(int hour) {
        int refusal = refusalOf(hour, MOST_HOURS - 1);
        if (refusal != 0) {
            return refusal;
        }
        service.workUpTo(hour, breaks);
        return service.points();
    }

    // ---- 3 rings, faults, plots

    public int ring() {
        if (folk.count == 0) {
            return STATE;
        }
        int set = 0;
        for (int t = 0; t < folk.count; t++) {
            if (folk.comesToItself(t)) {
                set |= 1 << t;
            }
        }
        return set;
    }

    public int first(int what) {
        int refusal = refusalOf(what, 1);
        if (refusal != 0) {
            return refusal;
        }
        service.forget();
        for (int hour = 0; hour < MOST_HOURS; hour++) {
            service.workHour(folk.law, breaks.brokenIn(hour));
            int undone = service.undoneUses();
            if (undone != 0) {
                return what == 0 ? hour : leastOf(undone);
            }
        }
        return NONE;
    }

    public int frail(int k, int what) {
        if (folk.count == 0) {
            return STATE;
        }
        if (isBeyond(k, folk.count) || isBeyond(what, 1)) {
            return OUTSIDE;
        }
        trials.seekFrail(k);
        return what == 0 ? trials.frailSet : trials.frailUndone;
    }

    public int plot(int use) {
        if (folk.thingAt(use) == null) {
            return UNKNOWN;
        }
        return trials.plotOn(use);
    }

    public int mend(int what) {
        int refusal = refusalOf(what, 1);
        if (refusal != 0) {
            return refusal;
        }
        trials.seekMend();
        return what == 0 ? trials.mendChange : trials.mendUndone;
    }

    public int wave(int t) {
        if (folk.thingAt(t) == null) {
            return UNKNOWN;
        }
        int broken = breaks.brokenIn(0);
        service.workHourZero(folk.law, broken);
        int now = service.points();
        service.workHourZero(folk.law, broken | 1 << t);
        return now - service.points() + 1000;
    }

    public int roster(int sheet, int lane, int i, int n) {
        latestFault = NO_FAULT;
        Sheet from = sheetAt(sheet);
        if (from == null) {
            return UNKNOWN;
        }
        if (isBeyond(lane, LANE_INTS)) {
            return OUTSIDE;
        }
        if (folk.count == 0) {
            return STATE;
        }
        int fault = from.rangeFault(lane, i, n);
        if (fault != NO_FAULT) {
            return cameTo(fault);
        }
        if (n != folk.count) {
            return OUTSIDE;
        }
        if (!namesThings(from, i)) {
            return UNKNOWN;
        }
        return firstUnlike(from, i);
    }

    // ---- 4 what had failed

    public int reading(int use, int t) {
        if (folk.thingAt(use) == null || t != NONE && folk.thingAt(t) == null) {
            return UNKNOWN;
        }
        return readings.add(use, t);
    }

    public int back(int k) {
        if (isBeyond(k, readings.count)) {
            return OUTSIDE;
        }
        readings.count -= k;
        return readings.count;
    }

    public int failed(int what) {
        int refusal = refusalOf(what, 2);
        if (refusal != 0) {
            return refusal;
        }
        trials.seekFailed(readings);
        switch (what) {
            case 0: return trials.failedCount;
            case 1: return trials.failedFewest;
            default: return trials.failedCommon;
        }
    }

    public int laws() {
        if (folk.count == 0) {
            return STATE;
        }
        int set = 0;
        for (int law = LAW_FIRST; law <= LAW_BEST; law++) {
            service.workHourZero(law, breaks.brokenIn(0));
            if (readings.areSo(service)) {
                set |= 1 << law;
            }
        }
        return set;
    }

    public long odds(int use, int which) {
        if (folk.thingAt(use) == null || isBeyond(which, 1)) {
            return LOST;
        }
        int upper = trials.setsThatServe(use);
        int lower = folk.sets();
        // The lower number is a power of two: nothing but twos can be common to both.
        for (int step = 0; step < MOST_THINGS && lower > 1 && upper % 2 == 0; step++) {
            upper /= 2;
            lower /= 2;
        }
        return which == 0 ? upper : lower;
    }

    // ---- 5 sheets, parts

    public int sheet(int k, int lane, int n) {
        latestFault = NO_FAULT;
        Sheet it = sheetAt(k);
        if (it == null) {
            return UNKNOWN;
        }
        if (isBeyond(lane, LANE_INTS) || n > MOST_CELLS) {
            return OUTSIDE;
        }
        if (n < 0) {
            return cameTo(SIZE_FAULT);
        }
        it.renew(lane, n);
        return 1;
    }

    public int lose(int k) {
        Sheet it = sheetAt(k);
        if (it == null) {
            return UNKNOWN;
        }
        int had = it.has ? 1 : 0;
        it.has = false;
        return had;
    }

    public int put(int k, int i, int v) {
        latestFault = NO_FAULT;
        Sheet it = sheetAt(k);
        if (it == null) {
            return UNKNOWN;
        }
        int fault = it.rangeFault(it.lane, i, 1);
        if (fault != NO_FAULT) {
            return cameTo(fault);
        }
        it.setCell(i, v);
        return 1;
    }

    public long cell(int k, int i, int lane) {
        latestFault = NO_FAULT;
        Sheet it = sheetAt(k);
        if (it == null || isBeyond(lane, LANE_INTS)) {
            return LOST;
        }
        latestFault = it.rangeFault(lane, i, 1);
        return latestFault == NO_FAULT ? it.cellAt(i) : LOST;
    }

    public int copy(int k, int i, int other, int j, int n) {
        latestFault = NO_FAULT;
        Sheet from = sheetAt(k);
        Sheet to = sheetAt(other);
        if (from == null || to == null) {
            return UNKNOWN;
        }
        if (!from.has || !to.has) {
            return cameTo(NULL_FAULT);
        }
        if (from.lane != to.lane) {
            return cameTo(CAST_FAULT);
        }
        // A copy has no length of its own that could be a SIZE: n below 0 is an INDEX here.
        if (n < 0 || from.isOver(i, n) || to.isOver(j, n)) {
            return cameTo(INDEX_FAULT);
        }
        System.arraycopy(from.cells, i, to.cells, j, n);
        return n;
    }

    public int tell(int t) {
        Thing thing = folk.thingAt(t);
        return thing == null ? UNKNOWN : bodies.telling(thing);
    }

    public int call(int t) {
        Thing thing = folk.thingAt(t);
        return thing == null ? UNKNOWN : bodies.ringing(thing);
    }

    public int as(int t, int kind) {
        latestFault = NO_FAULT;
        Thing thing = folk.thingAt(t);
        if (thing == null) {
            return UNKNOWN;
        }
        if (isBeyond(kind, KIND_MAYOR)) {
            return OUTSIDE;
        }
        // Each kind is one of all the kinds with lesser numbers, too.
        return thing.kind < kind ? cameTo(CAST_FAULT) : 1;
    }

    public int trace() {
        return bodies.left;
    }

    public int fault() {
        return latestFault;
    }

    public int many(int what) {
        switch (what) {
            case 0: return folk.count;
            case 1: return breaks.count;
            case 2: return readings.count;
            case 3: return folk.law;
            default: return OUTSIDE;
        }
    }

    // ---- what the calls share

    private Sheet sheetAt(int k) {
        return k >= 0 && k < MOST_SHEETS ? sheets[k] : null;
    }

    /** For the calls that look at their one number ahead of whether there is a TOWN; 0: it is taken. */
    private int refusalOf(int number, int most) {
        if (isBeyond(number, most)) {
            return OUTSIDE;
        }
        return folk.count == 0 ? STATE : 0;
    }

    private int cameTo(int fault) {
        latestFault = fault;
        return -10 - fault;
    }

    private boolean namesThings(Sheet from, int start) {
        for (int use = 0; use < folk.count; use++) {
            int who = from.cellAt(start + use);
            if (who != NONE && folk.thingAt(who) == null) {
                return false;
            }
        }
        return true;
    }

    private int firstUnlike(Sheet from, int start) {
        service.workHourZero(folk.law, breaks.brokenIn(0));
        for (int use = 0; use < folk.count; use++) {
            if (from.cellAt(start + use) != service.serverOf(use)) {
                return use;
            }
        }
        return NONE;
    }

    private static boolean isBeyond(int number, int most) {
        return number < 0 || number > most;
    }

    private static int leastOf(int set) {
        for (int k = 0; k < MOST_THINGS; k++) {
            if ((set >> k & 1) != 0) {
                return k;
            }
        }
        return NONE;
    }

    /** A SHEET: its cells are made once, a new row uses them again. */
    private static final class Sheet {
        private final int[] cells = new int[MOST_CELLS];
        private boolean has = false;
        private int lane = LANE_BYTES;
        private int length = 0;

        void renew(int newLane, int n) {
            has = true;
            lane = newLane;
            length = Math.min(n, MOST_CELLS);
            Arrays.fill(cells, 0);
        }

        /** The first FAULT that one comes to who takes n cells from i on as a row of a LANE. */
        int rangeFault(int asLane, int i, int n) {
            if (!has) {
                return NULL_FAULT;
            }
            if (lane != asLane) {
                return CAST_FAULT;
            }
            if (n < 0) {
                return SIZE_FAULT;
            }
            return isOver(i, n) ? INDEX_FAULT : NO_FAULT;
        }

        boolean isOver(int i, int n) {
            // Not i + n > length: that sum could wrap.
            return i < 0 || i > length || n > length - i;
        }

        int cellAt(int i) {
            return i >= 0 && i < length ? cells[i] : 0;
        }

        void setCell(int i, int v) {
            if (i >= 0 && i < length) {
                cells[i] = cutToLane(v);
            }
        }

        private int cutToLane(int v) {
            switch (lane) {
                case LANE_BYTES: return (byte) v;
                case LANE_SHORTS: return (short) v;
                default: return v;
            }
        }
    }

    /** How a TEXT must be: e, then for each THING the five codes ; letter DEPUTY FIT LASTS. */
    private static final class Text {
        private static final int CODES_EACH = 5, LETTER = 1, DEPUTY = 2, FIT = 3, LASTS = 4;

        private Text() {
        }

        static int thingsIn(int n) {
            return (n - 1) / CODES_EACH;
        }

        static int placeOf(int thing, int part) {
            return 1 + CODES_EACH * thing + part;
        }

        /** NONE: the n cells from start on are a TEXT. */
        static int firstFault(Sheet from, int start, int n) {
            for (int place = 0; place < n; place++) {
                if (!goesOn(place, from.cellAt(start + place))) {
                    return place;
                }
            }
            boolean endsTooSoon = thingsIn(n) < 2 || placeOf(thingsIn(n), 0) != n;
            return endsTooSoon ? n : firstStranger(from, start, thingsIn(n));
        }

        private static boolean goesOn(int place, int code) {
            if (place == 0) {
                return code == 'e';
            }
            int thing = (place - 1) / CODES_EACH;
            switch ((place - 1) % CODES_EACH) {
                case 0: return code == ';' && thing < MOST_THINGS;
                case LETTER: return kindBy(code) != NONE;
                case DEPUTY: return code >= '0' && code <= '7' && code - '0' != thing;
                default: return code >= '1' && code <= '9';
            }
        }

        /** Only at the end it is known how many THINGS there are, so DEPUTIES are looked at again. */
        private static int firstStranger(Sheet from, int start, int things) {
            for (int t = 0; t < things; t++) {
                int place = placeOf(t, DEPUTY);
                if (from.cellAt(start + place) - '0' >= things) {
                    return place;
                }
            }
            return NONE;
        }

        static int kindBy(int code) {
            switch (code) {
                case 't': return KIND_THING;
                case 's': return KIND_SWORN;
                case 'm': return KIND_MAYOR;
                default: return NONE;
            }
        }
    }

    private static final class Thing {
        private final int number;
        private int kind = KIND_THING;
        private int deputy = 0;
        private int fit = 0;
        private int lasts = 0;
        private int good = 0;

        Thing(int number) {
            this.number = number;
        }

        void become(int newKind, int newDeputy, int newFit, int newLasts) {
            kind = newKind;
            deputy = newDeputy;
            fit = newFit;
            lasts = newLasts;
            good = goodOf(newKind, newFit);
        }

        private static int goodOf(int kind, int fit) {
            switch (kind) {
                case KIND_MAYOR: return 2 * (fit + 1);
                case KIND_SWORN: return fit + 1;
                default: return fit;
            }
        }
    }

    /** The THINGS and the LAW; its THINGS are made once, a new TEXT uses them again. */
    private static final class Town {
        private final Thing[] things = new Thing[MOST_THINGS];
        private int count = 0;
        private int law = LAW_FIRST;

        Town() {
            for (int t = 0; t < MOST_THINGS; t++) {
                things[t] = new Thing(t);
            }
        }

        void settle(Sheet text, int start, int howMany) {
            count = Math.min(howMany, MOST_THINGS);
            law = LAW_FIRST;
            for (int t = 0; t < count; t++) {
                Thing thing = thingAt(t);
                if (thing != null) {
                    int kind = Text.kindBy(text.cellAt(start + Text.placeOf(t, Text.LETTER)));
                    int deputy = text.cellAt(start + Text.placeOf(t, Text.DEPUTY)) - '0';
                    int fit = text.cellAt(start + Text.placeOf(t, Text.FIT)) - '0';
                    int lasts = text.cellAt(start + Text.placeOf(t, Text.LASTS)) - '0';
                    thing.become(kind, deputy, fit, lasts);
                }
            }
        }

        Thing thingAt(int t) {
            return t >= 0 && t < count && t < MOST_THINGS ? things[t] : null;
        }

        int sets() {
            return 1 << count;
        }

        boolean comesToItself(int t) {
            Thing next = thingAt(t);
            for (int step = 0; step < count && next != null; step++) {
                if (next.deputy == t) {
                    return true;
                }
                next = thingAt(next.deputy);
            }
            return false;
        }
    }

    private static final class Breaks {
        private final int[] who = new int[MOST_BREAKS];
        private final int[] from = new int[MOST_BREAKS];
        private final int[] to = new int[MOST_BREAKS];
        private int count = 0;

        int add(int thing, int first, int last) {
            if (count < 0 || count >= MOST_BREAKS) {
                return FULL;
            }
            who[count] = thing;
            from[count] = first;
            to[count] = last;
            count++;
            return count - 1;
        }

        int brokenIn(int hour) {
            int set = 0;
            for (int k = 0; k < count && k < MOST_BREAKS; k++) {
                if (from[k] <= hour && hour <= to[k]) {
                    set |= 1 << who[k];
                }
            }
            return set;
        }
    }

    private static final class Readings {
        private final int[] uses = new int[MOST_READINGS];
        private final int[] servers = new int[MOST_READINGS];
        private int count = 0;

        int add(int use, int server) {
            if (count < 0 || count >= MOST_READINGS) {
                return FULL;
            }
            uses[count] = use;
            servers[count] = server;
            count++;
            return count - 1;
        }

        boolean areSo(Service service) {
            for (int k = 0; k < count && k < MOST_READINGS; k++) {
                if (service.serverOf(uses[k]) != servers[k]) {
                    return false;
                }
            }
            return true;
        }
    }

    /** Who SERVES each USE. Who is TIRED hangs on the HOURS ahead, so they are worked out in turn. */
    private static final class Service {
        private final Town folk;
        private final int[] servers = new int[MOST_THINGS];
        /** For how many HOURS on end the same one has stood in for a USE. */
        private final int[] streaks = new int[MOST_THINGS];
        /** Those who stand in for a USE in this HOUR, as a set. */
        private int standing = 0;

        Service(Town folk) {
            this.folk = folk;
        }

        void workUpTo(int lastHour, Breaks breaks) {
            forget();
            for (int hour = 0; hour <= lastHour && hour < MOST_HOURS; hour++) {
                workHour(folk.law, breaks.brokenIn(hour));
            }
        }

        void workHourZero(int law, int broken) {
            forget();
            workHour(law, broken);
        }

        void forget() {
            Arrays.fill(servers, NONE);
            Arrays.fill(streaks, 0);
        }

        void workHour(int law, int broken) {
            standing = 0;
            for (int use = 0; use < folk.count && use < MOST_THINGS; use++) {
                boolean isWhole = (broken >> use & 1) == 0;
                int server = isWhole ? use : standInFor(use, law, broken);
                if (isWhole || server == NONE) {
                    streaks[use] = 0;
                } else {
                    streaks[use] = server == servers[use] ? streaks[use] + 1 : 1;
                    standing |= 1 << server;
                }
                servers[use] = server;
            }
        }

        /** NONE: nobody. */
        private int standInFor(int use, int law, int broken) {
            Thing chosen = null;
            Thing last = folk.thingAt(use);
            int passed = 1 << use;
            for (int step = 0; step < MOST_THINGS && last != null; step++) {
                Thing next = folk.thingAt(last.deputy);
                if (next == null || (passed >> next.number & 1) != 0) {
                    break;
                }
                passed |= 1 << next.number;
                if (may(next, use, broken) && isPreferred(next, chosen, law)) {
                    chosen = next;
                }
                last = next;
            }
            return chosen == null ? NONE : chosen.number;
        }

        private boolean may(Thing other, int use, int broken) {
            if ((broken >> other.number & 1) != 0 || use < 0 || use >= MOST_THINGS) {
                return false;
            }
            boolean isTired = servers[use] == other.number && streaks[use] >= other.lasts;
            return !isTired;
        }

        /** Is the next one of the row, who may stand in, chosen rather than who is so far? */
        private boolean isPreferred(Thing next, Thing chosen, int law) {
            switch (law) {
                case LAW_ONE_EACH: return chosen == null && (standing >> next.number & 1) == 0;
                case LAW_BEST: return chosen == null || next.good > chosen.good;
                default: return chosen == null;
            }
        }

        int serverOf(int use) {
            return use >= 0 && use < MOST_THINGS ? servers[use] : NONE;
        }

        int undoneUses() {
            int set = 0;
            for (int use = 0; use < folk.count && use < MOST_THINGS; use++) {
                if (servers[use] == NONE) {
                    set |= 1 << use;
                }
            }
            return set;
        }

        int points() {
            int sum = 0;
            for (int use = 0; use < folk.count && use < MOST_THINGS; use++) {
                Thing server = folk.thingAt(servers[use]);
                if (server != null) {
                    sum += server.number == use ? 100 : Math.min(10 * server.good, 99);
                }
            }
            return sum;
        }
    }

    /** What would be, if a set of THINGS were BROKEN in HOUR 0 in place of all BREAKS. */
    private static final class Trials {
        private final Town folk;
        private final Service service;
        private int frailSet = 0;
        private int frailUndone = 0;
        private int mendChange = NONE;
        private int mendUndone = 0;
        private int failedCount = 0;
        private int failedFewest = NONE;
        private int failedCommon = NONE;

        Trials(Town folk, Service service) {
            this.folk = folk;
            this.service = service;
        }

        void seekFrail(int k) {
            frailSet = NONE;
            frailUndone = 0;
            for (int set = 0; set < folk.sets(); set++) {
                if (Integer.bitCount(set) != k) {
                    continue;
                }
                service.workHourZero(folk.law, set);
                int undone = Integer.bitCount(service.undoneUses());
                if (frailSet == NONE || undone > frailUndone) {
                    frailSet = set;
                    frailUndone = undone;
                }
                // Only the USES of BROKEN THINGS can be UNDONE, so that none is worse than this.
                if (undone == k) {
                    return;
                }
            }
        }

        /** NONE: by no set. */
        int plotOn(int use) {
            int fewest = NONE;
            for (int set = 0; set < folk.sets(); set++) {
                service.workHourZero(folk.law, set);
                if (service.serverOf(use) == NONE && isFewer(set, fewest)) {
                    fewest = set;
                }
            }
            return fewest;
        }

        void seekMend() {
            seekFrail(2);
            mendChange = NONE;
            mendUndone = frailUndone;
            for (int t = 0; t < folk.count; t++) {
                Thing thing = folk.thingAt(t);
                int own = thing == null ? NONE : thing.deputy;
                for (int other = 0; other < folk.count && thing != null && mendUndone > 0; other++) {
                    if (other != t && other != own) {
                        thing.deputy = other;
                        seekFrail(2);
                        keepMend(10 * t + other);
                        // The change was but a trial.
                        thing.deputy = own;
                    }
                }
            }
        }

        private void keepMend(int change) {
            if (frailUndone < mendUndone) {
                mendChange = change;
                mendUndone = frailUndone;
            }
        }

        void seekFailed(Readings readings) {
            failedCount = 0;
            failedFewest = NONE;
            failedCommon = NONE;
            for (int set = 0; set < folk.sets(); set++) {
                service.workHourZero(folk.law, set);
                if (readings.areSo(service)) {
                    failedCommon = failedCount == 0 ? set : failedCommon & set;
                    failedCount++;
                    failedFewest = isFewer(set, failedFewest) ? set : failedFewest;
                }
            }
        }

        int setsThatServe(int use) {
            int count = 0;
            for (int set = 0; set < folk.sets(); set++) {
                service.workHourZero(folk.law, set);
                if (service.serverOf(use) != NONE) {
                    count++;
                }
            }
            return count;
        }

        private static boolean isFewer(int set, int than) {
            return than == NONE || Integer.bitCount(set) < Integer.bitCount(than);
        }
    }

    /** The bodies that leave their number as they begin. */
    private static final class Bodies {
        private int left = 0;

        int telling(Thing thing) {
            switch (thing.kind) {
                case KIND_MAYOR: return mayorTells(thing);
                case KIND_SWORN: return swornTells(thing);
                default: return thingTells(thing);
            }
        }

        int ringing(Thing thing) {
            return thing.kind == KIND_MAYOR ? mayorRings() : lentRings(thing);
        }

        private int thingTells(Thing thing) {
            leave(1);
            return thing.fit;
        }

        private int swornTells(Thing thing) {
            leave(2);
            return thingTells(thing) + 100;
        }

        private int mayorTells(Thing thing) {
            leave(3);
            // One after the other, as the TRACE tells their order.
            int sworn = swornTells(thing);
            return sworn + thingTells(thing);
        }

        private int lentRings(Thing thing) {
            leave(4);
            return thing.number;
        }

        private int mayorRings() {
            leave(5);
            return 20;
        }

        private void leave(int body) {
            left = 31 * left + body;
        }
    }
}
