/** Promises 1 to 8: a new object, STATUS, the FRACTION, TRAYS. */
public final class TraysTest {
    public static void main(String[] args) {
        newObject();
        statusStays();
        trays();
        cuts();
        wrongPlaces();
        pours();
        wrongPours();
        Check.end();
    }

    private static void newObject() {
        Check c = new Check();
        Check.same("status", c.x.status(), 0);
        Check.same("top", c.x.top(), 0);
        Check.same("bottom", c.x.bottom(), 1);
        for (int tray = 0; tray < 4; tray++) {
            c.no("a new tray", c.x.read(tray, 0), 3);
        }
        int[] many = {0, 0, 0, 0, 50, 9, 1, 10, 0, 0, 0, 0, 0, 0, 0, 0};
        for (int what = 0; what < many.length; what++) {
            c.is("many " + what, c.x.many(what), many[what]);
        }
        c.no("no sessions", c.x.live(0), 8);
        c.no("no marks", c.x.back(), 8);
        c.no("an empty tape", c.x.assembly(1), 5);
        Check.same("no fault yet", c.x.fault(0), -1);
        Check.same("no place yet", c.x.fault(1), -1);
        Check.same("feed on an empty tape", c.x.feed(0, 0, 0, 0, 0), 20);
    }

    private static void statusStays() {
        Check c = Check.of(Check.HOUSE);
        c.yes("seek", c.x.seek());
        c.no("no such tray", c.x.read(4, 0), 1);
        c.x.top();
        c.x.bottom();
        c.x.fault(0);
        c.x.fault(7);
        c.x.feed(0x20202020, 0x20202020, 0x20202020, 0x20202020, 0x20202020);
        Check.same("calls without a status leave it", c.x.status(), 1);
        c.no("a call that fails", c.x.share(9), 2);
        Check.same("leaves the top", c.x.top(), 45);
        Check.same("leaves the bottom", c.x.bottom(), 2);
        c.take("party a;");
        Check.same("an assembly leaves the top", c.x.top(), 45);
        c.no("no rooms", c.x.seek(), 8);
        Check.same("none leaves the top", c.x.top(), 45);
    }

    private static void trays() {
        Check c = new Check();
        c.yes("tray", c.x.tray(3, 3, 60));
        c.yes("write last", c.x.write(3, 59, Long.MIN_VALUE));
        c.is("read last", c.x.read(3, 59), Long.MIN_VALUE);
        c.is("read first", c.x.read(3, 0), 0);
        c.yes("tray anew", c.x.tray(3, 2, 60));
        c.is("all 0", c.x.read(3, 59), 0);
        c.yes("an empty tray", c.x.tray(0, 0, 0));
        c.no("has no place", c.x.read(0, 0), 4);
        c.no("no such tray", c.x.tray(4, 0, 1), 1);
        c.no("no such tray below", c.x.tray(-1, 0, 1), 1);
        c.no("no such sort", c.x.tray(0, 4, 1), 1);
        c.no("no such sort below", c.x.tray(0, -1, 61), 1);
        c.no("too many", c.x.tray(0, 0, 61), 5);
        c.no("below 0", c.x.tray(3, 0, -1), 6);
        c.yes("a failed one leaves the tray", c.x.write(3, 59, 1));
    }

    private static void cuts() {
        Check c = new Check();
        long[] cut = {0x21, 0x4321, 0x87654321, 0x1234567887654321L};
        long[] low = {-1, 0x00ff, 0x00ff00ff, 0x00ff00ff00ff00ffL};
        long[] signed = {-128, 0x80, 0x80, 0x80};
        for (int sort = 0; sort < 4; sort++) {
            c.yes("tray", c.x.tray(sort, sort, 3));
            c.yes("write", c.x.write(sort, 0, 0x1234567887654321L));
            c.yes("write", c.x.write(sort, 1, 0x00ff00ff00ff00ffL));
            c.yes("write", c.x.write(sort, 2, 0x80));
            c.is("cut by sort " + sort, c.x.read(sort, 0), cut[sort]);
            c.is("low bits of sort " + sort, c.x.read(sort, 1), low[sort]);
            c.is("sign of sort " + sort, c.x.read(sort, 2), signed[sort]);
        }
        c.yes("write -1", c.x.write(1, 0, -1));
        c.is("read -1 with status 0", c.x.read(1, 0), -1);
    }

    private static void wrongPlaces() {
        Check c = new Check();
        c.yes("tray", c.x.tray(1, 0, 2));
        int[][] wrong = {{-1, 0, 1}, {4, 0, 1}, {0, 0, 3}, {0, -1, 3}, {1, -1, 4}, {1, 2, 4}, {1, Integer.MAX_VALUE, 4}, {1, Integer.MIN_VALUE, 4}};
        for (int[] w : wrong) {
            c.no("write " + w[0] + " " + w[1], c.x.write(w[0], w[1], 5), w[2]);
            c.no("read " + w[0] + " " + w[1], c.x.read(w[0], w[1]), w[2]);
        }
        c.is("nothing was written", c.x.read(1, 0), 0);
    }

    private static void fill(Check c, int tray, int sort, int many) {
        c.yes("tray", c.x.tray(tray, sort, many));
        for (int i = 0; i < many; i++) {
            c.x.write(tray, i, 10 * tray + i);
        }
    }

    private static void reads(Check c, String what, int tray, long... want) {
        for (int i = 0; i < want.length; i++) {
            c.is(what + " " + i, c.x.read(tray, i), want[i]);
        }
    }

    private static void pours() {
        Check c = new Check();
        fill(c, 0, 1, 6);
        fill(c, 1, 1, 4);
        c.yes("pour", c.x.pour(0, 2, 1, 1, 3));
        reads(c, "to another", 1, 10, 2, 3, 4);
        c.yes("forth within one", c.x.pour(0, 0, 0, 2, 4));
        reads(c, "as they were", 0, 0, 1, 0, 1, 2, 3);
        fill(c, 0, 1, 6);
        c.yes("back within one", c.x.pour(0, 2, 0, 0, 4));
        reads(c, "as they were", 0, 2, 3, 4, 5, 4, 5);
        c.yes("none", c.x.pour(0, 6, 1, 4, 0));
        reads(c, "none changes nothing", 1, 10, 2, 3, 4);
    }

    private static void wrongPours() {
        Check c = new Check();
        fill(c, 0, 1, 6);
        fill(c, 1, 1, 4);
        fill(c, 2, 2, 4);
        c.no("no such tray", c.x.pour(4, 0, 3, 0, -1), 1);
        c.no("to no such tray", c.x.pour(3, 0, -1, 0, -1), 1);
        c.no("from a missing one", c.x.pour(3, 0, 2, 0, -1), 3);
        c.no("to a missing one", c.x.pour(0, 0, 3, 0, -1), 3);
        c.no("unlike sorts ahead of below 0", c.x.pour(0, 0, 2, 0, -1), 11);
        c.no("below 0 ahead of a place", c.x.pour(0, -1, 1, 0, -1), 6);
        c.no("a place below", c.x.pour(0, -1, 1, 0, 1), 4);
        c.no("a place to below", c.x.pour(0, 0, 1, -1, 1), 4);
        c.no("too few from there", c.x.pour(0, 4, 1, 0, 3), 4);
        c.no("too few there", c.x.pour(0, 0, 1, 2, 3), 4);
        c.no("far too many", c.x.pour(0, 1, 1, 0, Integer.MAX_VALUE), 4);
        c.no("a place far off", c.x.pour(0, Integer.MAX_VALUE, 1, 0, 1), 4);
        reads(c, "nothing was poured", 1, 10, 11, 12, 13);
    }
}
