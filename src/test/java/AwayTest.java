/** Promises 40 to 46: who stays away, and the GAME. */
public final class AwayTest {
    public static void main(String[] args) {
        fewest();
        cheapest();
        prices();
        powersBy();
        games();
        moves();
        nothing();
        Check.end();
    }

    private static void finds(Check c, int motion, int many, int set, int price, int priceSet) {
        c.is("fewest", c.x.fewest(motion), many);
        c.is("fewest set", c.x.fewestSet(motion), set);
        c.is("cheapest", c.x.cheapest(motion), price);
        c.is("cheapest set", c.x.cheapestSet(motion), priceSet);
    }

    private static void findsNone(Check c, int motion, int why) {
        c.no("fewest", c.x.fewest(motion), why);
        c.no("fewest set", c.x.fewestSet(motion), why);
        c.no("cheapest", c.x.cheapest(motion), why);
        c.no("cheapest set", c.x.cheapestSet(motion), why);
    }

    // a has 0 with four who can go, b has 3: one of a far away gives 2, two give 4.
    private static void fewest() {
        Check c = Check.of("party a;party b;member d of a at 0 sick;member e of a at 0 price 9;member f of a at 0 price 8;member g of a at 0 price 1;"
            + "member h of b at 60;member i of b at 5;member j of a at 0 dead 20;motion m for a against b;motion n for b against a;"
            + "motion o for against b;");
        c.x.rule(2, 0);
        finds(c, 0, 2, 6, 9, 12);
        finds(c, 1, 0, 0, 0, 0);
        findsNone(c, 2, 8);
        findsNone(c, 3, 2);
        findsNone(c, -1, 2);
        c.x.fall(2, true);
        finds(c, 0, 2, 10, 10, 10);
        c.x.fall(3, true);
        findsNone(c, 0, 8);
        c.is("all stays as it is", c.x.member(1, 1), 0);
        c.take("party a;party b;member d of a at 0;member e of a at 0;member f of b at 99;member g of b at 5;motion m for a against b;");
        finds(c, 0, 2, 3, 20, 3);
        c.x.join(2, 0);
        c.x.join(3, 0);
        c.x.side(0, 1, 2);
        finds(c, 0, 0, 0, 0, 0);
        c.take("party a;party b;member d of b at 0 dead 0;member e of a at 0;member f of a at 0;motion m for a against b;");
        finds(c, 0, 2, 6, 20, 6);
    }

    // One dear one alone, or two cheap ones who are but 1 nearer.
    private static void cheapest() {
        Check c = Check.of("party a;party b;member d of a at 5 price 4;member e of a at 5 price 4;member f of a at 0 price 9;"
            + "member g of b at 99;member h of b at 5;motion m for a against b;");
        finds(c, 0, 1, 4, 8, 3);
        c.take("party a;party b;member d of a at 5 price 5;member e of a at 5 price 4;member f of a at 0 price 9;"
            + "member g of b at 99;member h of b at 5;motion m for a against b;");
        finds(c, 0, 1, 4, 9, 4);
        c.take("party a;party b;member d of a at 0 price 0;member e of a at 0 price 0;member f of a at 0 price 0;"
            + "member g of b at 5;motion m for a against b;");
        finds(c, 0, 1, 1, 0, 1);
    }

    // The twin of one of b: while d is in, its twin e of b counts 1.
    private static void prices() {
        Check c = Check.of("party a;party b;member d of a at 0 price 1;member e of b at 99;member f of a at 0 price 50;twins d e;motion m for a against b;motion n for b against a;");
        finds(c, 0, 1, 4, 50, 4);
        finds(c, 1, 0, 0, 0, 0);
    }

    private static void powersBy() {
        Check c = Check.of(Check.HOUSE);
        c.is("ann is away: bob, too, counts 2", c.x.powerBy(0, 1), 4);
        c.is("bob is away", c.x.powerBy(0, 2), 1);
        c.is("cid and dot", c.x.powerBy(1, 12), 4);
        c.is("eve is sick, fay is hidden", c.x.powerBy(2, 48), 1);
        c.is("of none", c.x.powerBy(2, 0), 1);
        c.is("of all", c.x.powerBy(0, 63), 4);
        c.no("no such member", c.x.powerBy(0, 64), 5);
        c.no("below", c.x.powerBy(0, -1), 5);
        c.no("no such party", c.x.powerBy(3, 64), 2);
        c.no("no such party below", c.x.powerBy(-1, 0), 2);
        c.is("all stays", c.x.power(0), 1);
    }

    private static void games() {
        Check c = Check.of(Check.HOUSE);
        c.is("no turn", c.x.game(0, 1, 0), -2);
        c.is("ann is away", c.x.game(0, 1, 1), 1);
        c.is("cid is away", c.x.game(0, 1, 2), 0);
        c.is("nothing is left to gain", c.x.game(0, 1, 3), 0);
        c.is("the other begins", c.x.game(1, 0, 0), 2);
        c.is("cid is away", c.x.game(1, 0, 1), 3);
        c.is("then ann", c.x.game(1, 0, 2), 0);
        c.is("grey can gain nothing, red 3", c.x.game(2, 0, 3), -3);
        c.no("no such party", c.x.game(3, 0, 4), 2);
        c.no("no such other", c.x.game(0, 3, 4), 2);
        c.no("no such party below", c.x.game(-1, 0, 0), 2);
        c.no("one and itself", c.x.game(1, 1, 1), 5);
        c.no("too many turns", c.x.game(0, 1, 4), 5);
        c.no("below", c.x.game(0, 1, -1), 5);
        c.is("all stays", c.x.member(0, 1), 0);
        c.take("party a;party b;member d of a at 5;member f of b at 99;");
        c.is("-1 by a status of 0", c.x.game(0, 1, 0), -1);
        c.is("d called and away again", c.x.game(0, 1, 3), 0);
        c.take("party a;party b;member d of a at 0;member e of a at 0;");
        c.is("one of two", c.x.game(0, 1, 1), 2);
        c.is("the other has no turn to use", c.x.game(0, 1, 2), 2);
        c.is("both", c.x.game(0, 1, 3), 4);
        c.is("against them", c.x.game(1, 0, 3), -2);
    }

    private static void moves() {
        Check c = Check.of(Check.HOUSE);
        c.is("ann is away", c.x.moveOf(0, 1, 1), 1);
        c.is("cid is away", c.x.moveOf(1, 0, 1), 5);
        c.no("turns 0", c.x.moveOf(0, 1, 0), 5);
        c.no("too many", c.x.moveOf(0, 1, 4), 5);
        c.no("one and itself", c.x.moveOf(0, 0, 1), 5);
        c.no("no such party", c.x.moveOf(3, 0, 0), 2);
        c.no("no such other below", c.x.moveOf(0, -1, 0), 2);
        c.is("fay, called, is as good as nothing", c.x.moveOf(2, 1, 1), 10);
        c.take("party a;party b;member d of a at 99;member e of a at 0;member f of b at 3;");
        c.is("e away is best", c.x.moveOf(0, 1, 1), 3);
        c.x.carry(1, 99);
        c.is("d away is as good as nothing", c.x.moveOf(0, 1, 1), 1);
        c.x.carry(0, 0);
        c.x.hide(0, true);
        c.is("called ahead of away", c.x.moveOf(0, 1, 1), 0);
    }

    // A PARTY with nobody to move does nothing; twins of two PARTIES make a MOVE gain and lose at once.
    private static void nothing() {
        Check c = Check.of("party a;party b;member e of a at 9 sick;member f of b at 0;");
        c.no("nobody can", c.x.moveOf(0, 1, 3), 8);
        c.is("so nothing is done", c.x.game(0, 1, 1), 1);
        c.take("party a;party b;member d of a at 5;member f of b at 99;twins d f;");
        c.is("by one and by 0", c.x.game(0, 1, 1), 0);
        c.is("away", c.x.moveOf(0, 1, 1), 1);
        c.take("party a;party b;member d of a at 5 hidden;member f of b at 99;twins d f;");
        c.is("called: f counts 1", c.x.moveOf(0, 1, 1), 0);
        c.take("party a;party b;member d of a at 0;member f of b at 99;twins d f;");
        c.is("in: called is as good as nothing, away gains 2 and loses 1", c.x.moveOf(0, 1, 1), 1);
        c.is("d and f", c.x.game(0, 1, 1), 0);
    }
}
