/** Promises 34 to 39: what will be, as if only MINUTES go by. */
public final class FutureTest {
    private static final String HOUSE = "far 30;party a;party b;member d of a at 0 speed 3;member e of b at 20 speed 7;"
        + "member f of b at 50 dead 0 hidden;member g of b at 50 sick hidden;motion m for a against b;motion n for b against a;motion o for against;";

    public static void main(String[] args) {
        yards();
        governors();
        firsts();
        carried();
        reigns();
        empty();
        present();
        Check.end();
    }

    private static Check walking() {
        Check c = Check.of(HOUSE);
        c.yes("d goes", c.x.walk(0, 2));
        c.yes("e comes", c.x.walk(1, 1));
        c.yes("the sick one comes", c.x.walk(3, 1));
        return c;
    }

    private static void yards() {
        Check c = walking();
        int[][] want = {{0, 0, 0}, {0, 1, 3}, {0, 332, 996}, {0, 333, 999}, {0, 334, 999}, {0, 600, 999}, {1, 0, 20}, {1, 2, 6}, {1, 3, 0}, {1, 600, 0},
            {2, 600, 50}, {3, 600, 50}};
        for (int[] w : want) {
            c.is("yards of " + w[0] + " in " + w[1], c.x.yardsIn(w[0], w[1]), w[2]);
        }
        c.no("no such member", c.x.yardsIn(4, 601), 2);
        c.no("no such member below", c.x.yardsIn(-1, 0), 2);
        c.no("above", c.x.yardsIn(0, 601), 5);
        c.no("below", c.x.yardsIn(0, -1), 5);
        c.is("nothing went by", c.x.many(8), 0);
        c.is("nobody went", c.x.member(0, 1), 0);
    }

    // d is at 3, 6 .. 30 in 1, 2 .. 10 minutes; e at 13, 6, 0: b governs at 0, nobody at 1 and 2, a from 3 on.
    private static void governors() {
        Check c = walking();
        c.is("now", c.x.governsIn(0), 1);
        c.no("in 1", c.x.governsIn(1), 8);
        c.no("in 2", c.x.governsIn(2), 8);
        c.is("in 3", c.x.governsIn(3), 0);
        c.is("in 600", c.x.governsIn(600), 0);
        c.no("above", c.x.governsIn(601), 5);
        c.no("below", c.x.governsIn(-1), 5);
    }

    private static void firsts() {
        Check c = walking();
        c.is("a", c.x.firstIn(0), 3);
        c.is("b", c.x.firstIn(1), 0);
        c.no("no such party", c.x.firstIn(2), 2);
        c.no("no such party below", c.x.firstIn(-1), 2);
        c.x.minute(3);
        c.no("b no more", c.x.firstIn(1), 8);
        c.take("far 601;party a;party b;member d of a at 0 speed 1;member e of b at 5;");
        c.x.walk(0, 2);
        c.no("in 601 is too late", c.x.firstIn(0), 8);
        c.x.rule(0, 600);
        c.is("in 600", c.x.firstIn(0), 600);
    }

    private static void carried() {
        Check c = walking();
        c.is("m", c.x.carriedIn(0), 3);
        c.is("n", c.x.carriedIn(1), 0);
        c.no("o", c.x.carriedIn(2), 8);
        c.no("no such motion", c.x.carriedIn(3), 2);
        c.no("no such motion below", c.x.carriedIn(-1), 2);
        c.take("far 600;party a;party b;member d of a at 0 speed 1;member e of b at 5;motion m for a against b;");
        c.x.walk(0, 2);
        c.is("in 600", c.x.carriedIn(0), 600);
        c.x.rule(0, 601);
        c.no("in 601 is too late", c.x.carriedIn(0), 8);
    }

    private static void reigns() {
        Check c = walking();
        c.is("b, now alone, is not asked", c.x.reign(1, 600), 0);
        c.is("a", c.x.reign(0, 3), 1);
        c.is("a", c.x.reign(0, 2), 0);
        c.is("a", c.x.reign(0, 600), 598);
        c.is("behind the first", Check.of("party a;member d of a at 5;").x.reign(0, 1), 1);
        c.no("no such party", c.x.reign(2, 0), 2);
        c.no("no such party below", c.x.reign(-1, 1), 2);
        c.no("none", c.x.reign(0, 0), 5);
        c.no("above", c.x.reign(0, 601), 5);
    }

    // What is asked of now does not look ahead: b has 1, a nothing, though in three MINUTES it will be the other way.
    private static void present() {
        Check c = walking();
        c.x.tray(0, 3, 4);
        c.is("counts", c.x.counts(0), 0);
        c.is("power", c.x.power(1), 1);
        c.is("power of a set", c.x.powerOf(3), 1);
        c.is("governs", c.x.governs(), 1);
        c.is("margin", c.x.margin(0), -1);
        c.is("in", c.x.many(9), 1);
        c.is("copies", c.x.copyCounts(0), 4);
        c.is("of e", c.x.read(0, 1), 1);
        c.is("fewest", c.x.fewestSet(0), 1);
        c.is("power by", c.x.powerBy(1, 0), 1);
        c.is("game", c.x.game(0, 1, 0), -1);
        c.is("wins", c.x.wins(2), 1);
        c.is("swings", c.x.swings(0), 0);
        c.is("carried by", c.x.carriedBy(999, 9, 1), 2);
        c.is("far for", c.x.farFor(1), 1);
        c.no("far for", c.x.farFor(0), 8);
        c.x.carry(1, 0);
        c.is("at once", c.x.winning(), 0);
        c.x.carry(1, 7);
        c.is("at once, too", c.x.swings(1), 2);
        c.x.carry(1, 0);
        c.is("and here", c.x.lean(), 0);
        c.x.carry(1, 7);
        c.fraction("and there", c.x.share(1), 1, 1);
        c.takeSessions("when governs b;stop;end;", 2);
        c.is("governs, in sessions", c.x.live(0), 2);
        c.takeSessions("when carried n;stop;end;", 2);
        c.is("carried, in sessions", c.x.live(0), 2);
        c.takeSessions("", 0);
        c.fraction("all power behind sessions", c.x.mean(0, 1), 1, 1);
        c.is("nobody walked", c.x.member(0, 1), 0);
    }

    private static void empty() {
        Check c = walking();
        c.is("in 1, but for 3 on", c.x.emptyIn(), 1);
        c.x.minute(3);
        c.no("e stays in", c.x.emptyIn(), 8);
        c.x.fall(1, true);
        c.is("the sick are not", c.x.emptyIn(), 0);
    }
}
