/** Promises 52 to 58: other laws, tallies, where a chair is sought. */
public final class LawsTest {
    public static void main(String[] args) {
        carriedBy();
        farFor();
        tallies();
        tallyTroubles();
        seeks();
        seeksWithTies();
        noSeeks();
        Check.end();
    }

    private static void carriedBy() {
        Check c = Check.of("party a;party b;member d of a at 20;member e of b at 10 dead 5;member f of b at 0 sick;member g of b at 3;"
            + "motion m for a against b;motion n for b against a;motion o for against a;");
        c.is("as it is", c.x.carriedBy(50, 9, 1), 2);
        c.is("all are as much", c.x.carriedBy(50, 4, 0), 0);
        c.is("d is far", c.x.carriedBy(20, 4, 0), 1);
        c.is("so is g", c.x.carriedBy(3, 4, 0), 0);
        c.is("the sick tip it", c.x.carriedBy(3, 4, 1), 2);
        c.is("least", c.x.carriedBy(1, 0, 0), 0);
        c.is("most", c.x.carriedBy(999, 99, 2), 2);
        int[][] wrong = {{0, 9, 1}, {1000, 9, 1}, {50, -1, 1}, {50, 100, 1}, {50, 9, -1}, {50, 9, 3}};
        for (int[] w : wrong) {
            c.no("no such law", c.x.carriedBy(w[0], w[1], w[2]), 5);
        }
        c.is("the law stays", c.x.many(4), 50);
        c.is("all stays", c.x.many(12), 2);
    }

    private static void farFor() {
        Check c = Check.of("party a;party b;party z;member d of a at 20;member e of b at 10;member f of z at 999;"
            + "motion m for a against b;motion n for b against a;motion o for z against a;motion p for z against;"
            + "motion q for a against z;");
        c.is("between 11 and 20", c.x.farFor(0), 11);
        c.no("by none", c.x.farFor(1), 8);
        c.is("above 20", c.x.farFor(2), 21);
        c.is("always", c.x.farFor(3), 1);
        c.no("by none, too", c.x.farFor(4), 8);
        c.no("no such motion", c.x.farFor(5), 2);
        c.no("no such motion below", c.x.farFor(-1), 2);
        c.x.carry(0, 998);
        c.is("999", c.x.farFor(2), 999);
        c.is("the law stays", c.x.many(4), 50);
    }

    private static void powers(Check c, int tray, long... powers) {
        c.yes("tray", c.x.tray(tray, 3, powers.length));
        for (int i = 0; i < powers.length; i++) {
            c.x.write(tray, i, powers[i]);
        }
    }

    private static void tells(Check c, String what, int ways, int sure, int ask) {
        c.is(what + ": tally", c.x.tally(0), ways);
        if (sure == -1) {
            c.no(what + ": sure", c.x.sure(0), 8);
        } else {
            c.is(what + ": sure", c.x.sure(0), sure);
        }
        if (ask == -1) {
            c.no(what + ": ask", c.x.ask(0), 8);
        } else {
            c.is(what + ": ask", c.x.ask(0), ask);
        }
    }

    // Of a: d, e, f are in or away, g is dead and counts 2, of b: h is hidden, i sick (1), j with its twin d of a.
    private static void tallies() {
        Check c = Check.of("party a;party b;member d of a at 7;member e of a at 0;member f of a at 99;member g of a at 5 dead 1;"
            + "member h of b at 3 hidden;member i of b at 0 sick;member j of b at 1;twins d j;");
        powers(c, 0, 4, 1);
        // j must be in, so d away would count 1: e or f is away alone, and h both ways.
        tells(c, "e or f", 4, 0, 1);
        powers(c, 0, 3, 1);
        // d away counts 1 beside j in: then neither e nor f is away, and j is in; h both ways.
        tells(c, "d by 1", 2, 1, 4);
        powers(c, 0, 8, 3);
        tells(c, "all away", 2, 71, 4);
        powers(c, 0, 9, 3);
        tells(c, "no way", 0, -1, -1);
        powers(c, 0, 4, 1 + (1L << 32));
        tells(c, "far too much", 0, -1, -1);
        c.x.die(4);
        powers(c, 0, 8, 3, 99);
        tells(c, "one way", 1, 71, -1);
        c.is("all stays", c.x.member(0, 1), 7);
        c.take("");
        tells(c, "nobody", 1, 0, -1);
        c.take("party a;member b of a at 0;member d of a at 0;member e of a at 0;");
        powers(c, 0, 2);
        tells(c, "of three as good the first", 3, 0, 0);
        c.x.fall(0, true);
        powers(c, 0, 3);
        tells(c, "the sick one is not asked", 2, 0, 1);
    }

    private static void tallyTroubles() {
        Check c = Check.of(Check.HOUSE);
        powers(c, 1, 1, 2);
        int[][] wrong = {{-1, 1}, {4, 1}, {0, 3}, {1, 4}};
        for (int[] w : wrong) {
            c.no("tally", c.x.tally(w[0]), w[1]);
            c.no("sure", c.x.sure(w[0]), w[1]);
            c.no("ask", c.x.ask(w[0]), w[1]);
        }
    }

    private static void order(Check c, int... rooms) {
        for (int k = 0; k < rooms.length; k++) {
            c.is("seek at " + k, c.x.seekAt(k), rooms[k]);
        }
        c.no("no such", c.x.seekAt(rooms.length), 8);
        c.no("no such below", c.x.seekAt(-1), 8);
    }

    private static void seeks() {
        Check c = Check.of(Check.HOUSE);
        c.fraction("20 times 12 and 30 times 4 by 16", c.x.seek(), 45, 2);
        order(c, 1, 0, 2);
        c.take("room a takes 7 odds 3;");
        c.fraction("one room", c.x.seek(), 7, 1);
        order(c, 0);
    }

    private static void seeksWithTies() {
        Check c = Check.of("room a takes 5 odds 0;room b takes 4 odds 2;room d takes 2 odds 1;room e takes 1 odds 0;room f takes 60 odds 16;room g takes 3 odds 2;");
        order(c, 5, 1, 2, 4, 0, 3);
        c.fraction("3 2, 7 2, 9 1, 69 16 by 21", c.x.seek(), 1133, 21);
    }

    private static void noSeeks() {
        Check c = Check.of("room a takes 5 odds 0;");
        c.no("no odds", c.x.seek(), 8);
        c.no("no order", c.x.seekAt(0), 8);
        c.take("party a;");
        c.no("no rooms", c.x.seek(), 8);
        c.no("no order, too", c.x.seekAt(0), 8);
    }
}
