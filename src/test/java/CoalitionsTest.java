/** Promises 47 to 51: COALITIONS and who swings them. */
public final class CoalitionsTest {
    public static void main(String[] args) {
        nobody();
        three();
        four();
        powerless();
        Check.end();
    }

    private static void nobody() {
        Check c = new Check();
        c.is("winning", c.x.winning(), 0);
        c.is("the empty set", c.x.wins(0), 0);
        c.no("no such set", c.x.wins(1), 5);
        c.is("lean", c.x.lean(), 0);
        c.no("swings", c.x.swings(0), 2);
        c.no("share", c.x.share(0), 2);
        c.take("party a;party b;member d of a at 0;");
        c.is("no power", c.x.winning(), 0);
        c.is("no swings", c.x.swings(0), 0);
        c.no("there are none", c.x.share(0), 8);
        Check.same("top stays", c.x.top(), 0);
    }

    // POWERS 1, 3, 1: blue alone has more than half.
    private static void three() {
        Check c = Check.of(Check.HOUSE);
        int[] wins = {0, 0, 1, 1, 0, 0, 1, 1};
        for (int set = 0; set < 8; set++) {
            c.is("wins " + set, c.x.wins(set), wins[set]);
        }
        c.no("no such set", c.x.wins(8), 5);
        c.no("no such set below", c.x.wins(-1), 5);
        c.is("winning", c.x.winning(), 4);
        c.is("red", c.x.swings(0), 0);
        c.is("blue", c.x.swings(1), 4);
        c.is("lean", c.x.lean(), 1);
        c.fraction("blue's share", c.x.share(1), 1, 1);
        c.fraction("red's share", c.x.share(0), 0, 1);
        c.no("no such party", c.x.swings(3), 2);
        c.no("no such party below", c.x.swings(-1), 2);
        c.no("no such share", c.x.share(3), 2);
        c.no("no such share below", c.x.share(-1), 2);
    }

    // POWERS 4, 2, 2, 1 of 9: a with anyone has 5 and more; without a there are 5 of b, d and e.
    private static void four() {
        Check c = Check.of("party a;party b;party d;party e;member f of a at 99;member g of a at 99;member h of b at 99;member i of d at 99;member j of e at 5;");
        c.is("winning", c.x.winning(), 8);
        c.is("a", c.x.swings(0), 6);
        c.is("b", c.x.swings(1), 2);
        c.is("d", c.x.swings(2), 2);
        c.is("e", c.x.swings(3), 2);
        c.is("lean: ab ad ae bde", c.x.lean(), 4);
        c.fraction("a's share", c.x.share(0), 1, 2);
        c.fraction("e's share", c.x.share(3), 1, 6);
        c.is("half is not enough", c.x.carry(4, 0), 5);
        c.is("4 of 8", c.x.wins(1), 0);
        c.is("so is the other half", c.x.wins(6), 0);
    }

    private static void powerless() {
        Check c = Check.of("party a;party b;member d of a at 5;");
        c.is("a, and both", c.x.winning(), 2);
        c.is("b can leave", c.x.lean(), 1);
        c.is("a swings both", c.x.swings(0), 2);
        c.is("b none", c.x.swings(1), 0);
    }
}
