/** What the tests share: the answers by their names, and towns told by a TEXT. */
final class Towns {
    static final int UNKNOWN = -1, OUTSIDE = -2, STATE = -3, FULL = -4, NONE = -9;
    static final int NULL = -11, CAST = -12, INDEX = -13, SIZE = -14;
    static final long LOST = Long.MIN_VALUE;
    static final int MIN = Integer.MIN_VALUE, MAX = Integer.MAX_VALUE;
    static final int HOURS = 30, CELLS = 60, SHEETS = 4, LANES = 3;

    /** THINGS 0, 1, 2 stand in for one another in a ring; 3 hangs on 1. GOOD: 3, 4, 10, 2. */
    static final String RING_OF_THREE = "e;t132;s231;m042;t123";

    /** Eight THINGS, each with the next one for its DEPUTY: a ring of all. */
    static final String RING_OF_EIGHT = "e;t111;t211;t311;t411;t511;t611;t711;t011";

    private Towns() {
    }

    static void write(DeputyTown x, int sheet, int lane, String text) {
        x.sheet(sheet, lane, text.length());
        for (int i = 0; i < text.length(); i++) {
            x.put(sheet, i, text.charAt(i));
        }
    }

    static int townBy(DeputyTown x, String text) {
        write(x, 3, 0, text);
        return x.town(3, 0, 0, text.length());
    }

    static DeputyTown in(String text) {
        DeputyTown x = new DeputyTown();
        townBy(x, text);
        return x;
    }

    /** The THINGS of a set are BROKEN from an HOUR to another one. */
    static void smashAll(DeputyTown x, int set, int from, int to) {
        for (int t = 0; t < 8; t++) {
            if ((set >> t & 1) != 0) {
                x.smash(t, from, to);
            }
        }
    }

    /** So many THINGS, each plain, FIT and LASTS 1, with the first other one for its DEPUTY. */
    static String plain(int things) {
        StringBuilder text = new StringBuilder("e");
        for (int t = 0; t < things; t++) {
            text.append(";t").append(t == 0 ? 1 : 0).append("11");
        }
        return text.toString();
    }

    /** Numbers that are none of 0 .. below - 1; some would be, if only their last bits were looked at. */
    static int[] noneOf(int below) {
        return new int[] {-1, below, below + 1, NONE, 32 + below - 1, 32, 64, 256, 1 << 16, -32, -256, MIN, MIN + 1, MAX};
    }
}
