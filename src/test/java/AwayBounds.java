/** Promises 40 to 46: FEWEST, CHEAPEST, POWER by who is AWAY, the GAME. */
final class AwayBounds {
    private AwayBounds() {
    }

    static void run() {
        troubles();
        none();
        fewest();
        cheapest();
        powersBy();
        games();
        gameTroubles();
        moves();
    }

    private static void troubles() {
        String[] calls = {"fewest", "fewestSet", "cheapest", "cheapestSet"};
        for (int i = 0; i < 4; i++) {
            String c = calls[i];
            Rows.test(40 + i, "no such MOTION", Rows.HOUSE, c + "(1) = 0", c + "(-1) ! 2", c + "(2) ! 2", c + "(MIN) ! 2", c + "(MAX) ! 2");
            Rows.test(40 + i, "not by any", "assembly: party a;member b of a at 0;motion m for against;motion n for against a; = 1", c + "(0) ! 8", c + "(1) ! 8", c + "(2) ! 2");
            Rows.test(40 + i, "without MEMBERS", "assembly: party a;motion m for a against; = 0", c + "(0) ! 8");
            Rows.test(40 + i, "by the SICK and the DEAD alone", "assembly: ill 0;buried 0;party a;member b of a at 0 sick;member d of a at 0 dead 1;member e of a at 0 hidden;motion m for a against; = 3", c + "(0) ! 8",
                "fall(0, false) = 1", c + "(0) = " + new int[] {1, 1, 10, 1}[i]);
            Rows.test(40 + i, "none of the MEMBERS is moved", Rows.HOUSE, c + "(0) = " + new int[] {1, 1, 10, 1}[i], "member(0, 1) = 0", "many(9) = 1", "power(0) = 1");
            Rows.test(40 + i, "the fifth of five", Rows.FULL, c + "(4) = " + new int[] {1, 1, 10, 1}[i], c + "(5) ! 2");
        }
    }

    private static void none() {
        Rows.test(40, "CARRIED already: nobody", Rows.HOUSE, "fewest(1) = 0");
        Rows.test(41, "CARRIED already: the empty set", Rows.HOUSE, "fewestSet(1) = 0");
        Rows.test(42, "CARRIED already: for nothing", Rows.HOUSE, "cheapest(1) = 0");
        Rows.test(43, "CARRIED already: the empty set", Rows.HOUSE, "cheapestSet(1) = 0");
    }

    private static void fewest() {
        String nine = "party a;party b;" + Rows.many("member # of a at 0;", 'c', 9) + "member z of b at 0;motion m for a against b;motion n for b against a;";
        Rows.test(40, "one is enough", "assembly: " + nine + " = 10", "fewest(0) = 1", "fewestSet(0) = 1", "fewest(1) = 1", "fewestSet(1) = 512");
        String all = "assembly: party a;party b;" + Rows.many("member # of a at 0;", 'c', 5) + Rows.many("member # of b at 999;", 'n', 5) + "motion m for a against b; = 10";
        Rows.test(40, "all five are as much, not more", all, "fewest(0) ! 8", "carry(9, 49) = 999", "fewest(0) = 5", "fewestSet(0) = 31", "cheapest(0) = 50", "cheapestSet(0) = 31");
        Rows.test(40, "all who can be", "assembly: party a;party b;member c of a at 0;member d of a at 0;member e of b at 0 dead 0;member f of b at 0 sick;motion m for a against b; = 4", "fewest(0) = 2",
            "fewestSet(0) = 3", "cheapest(0) = 20", "cheapestSet(0) = 3", "rule(2, 2) = 1", "fewest(0) ! 8");
        Rows.test(41, "of several sets the least as a number", "assembly: party a;party b;" + Rows.many("member # of a at 0;", 'c', 9) + "member z of b at 999;motion m for a against b; = 10", "fewest(0) = 2",
            "fewestSet(0) = 3", "fall(0, true) = 1", "fewestSet(0) = 2", "fall(0, false) = 1", "carry(4, 1) = 0", "carry(5, 1) = 0", "fewest(0) = 1", "fewestSet(0) = 1");
        Rows.test(41, "the last alone", "assembly: party a;party b;" + Rows.many("member # of b at 1;", 'c', 9) + "member z of a at 0;motion m for a against b; = 10", "fewestSet(0) ! 8", "side(0, 1, 2) = 1",
            "fewest(0) = 1", "fewestSet(0) = 512", "cheapestSet(0) = 512");
        Rows.test(41, "one of the other PARTY, whose TWIN it lets COUNT", "assembly: party a;party b;member c of a at 999;member d of b at 0;member e of b at 1;twins c d;motion m for a against b;"
            + " = 3", "margin(0) = 0", "fewest(0) ! 8", "hide(1, true) = 1", "fewest(0) = 1", "fewestSet(0) = 2");
    }

    private static void cheapest() {
        String three = "assembly: party a;party b;member c of a at 0 price #;member d of a at 0 price %;member e of a at 0 price &;member f of b at 1;motion m for a against b; = 4";
        Rows.test(42, "PRICES 0 and 99", three.replace("#", "99").replace("%", "99").replace("&", "99"), "cheapest(0) = 99", "cheapestSet(0) = 1");
        Rows.test(42, "for nothing", three.replace("#", "99").replace("%", "0").replace("&", "0"), "cheapest(0) = 0", "cheapestSet(0) = 2");
        Rows.test(43, "of several the fewest, then the least", three.replace("#", "0").replace("%", "0").replace("&", "0"), "cheapestSet(0) = 1");
        Rows.test(43, "one less is less", three.replace("#", "5").replace("%", "5").replace("&", "4"), "cheapestSet(0) = 4", "cheapest(0) = 4", "fewestSet(0) = 1");
        // d alone gains 2, c and e, being out, 1 each.
        String pairs = "assembly: party a;party b;member c of a at 1 price 4;member d of a at 0 price #;member e of a at 1 price 4;member f of b at 999;member g of b at 1;motion m for a against b; = 5";
        Rows.test(43, "two cheaper than one", pairs.replace("#", "9"), "cheapest(0) = 8", "cheapestSet(0) = 5", "fewest(0) = 1", "fewestSet(0) = 2");
        Rows.test(43, "two as dear as one: the fewest", pairs.replace("#", "8"), "cheapest(0) = 8", "cheapestSet(0) = 2");
        Rows.test(42, "the dearest: ten of 99", "assembly: party a;party b;" + Rows.many("member # of a at 999 price 99;", 'c', 9) + "member z of b at 0 price 99;motion m for b against a; = 10", "cheapest(0) ! 8",
            "side(0, 0, 2) = 1", "cheapest(0) = 99", "cheapestSet(0) = 512");
        Rows.test(42, "the dearest set: five of 99", "assembly: party a;party b;" + Rows.many("member # of a at 0 price 99;", 'c', 5) + Rows.many("member # of b at 999 price 0;", 'n', 4)
            + "member z of b at 1;motion m for a against b; = 10", "cheapest(0) = 495", "cheapestSet(0) = 31");
    }

    private static void powersBy() {
        Rows.test(44, "no such PARTY", Rows.HOUSE, "powerBy(0, 0) = 1", "powerBy(2, 0) = 1", "powerBy(-1, 0) ! 2", "powerBy(3, 0) ! 2", "powerBy(MIN, 0) ! 2", "powerBy(MAX, 0) ! 2", "powerBy(3, 64) ! 2");
        Rows.test(44, "sets of MEMBERS", Rows.HOUSE, "powerBy(0, 0) = 1", "powerBy(0, 63) = 4", "powerBy(0, 64) ! 5", "powerBy(0, -1) ! 5", "powerBy(0, 65) ! 5", "powerBy(0, MIN) ! 5", "powerBy(0, MAX) ! 5");
        Rows.test(44, "the DEAD, the SICK stay as they are", Rows.HOUSE, "powerBy(1, 8) = 3", "powerBy(2, 16) = 1", "rule(1, 4) = 1", "powerBy(1, 8) = 1", "rule(2, 0) = 1", "powerBy(2, 16) = 0");
        Rows.test(44, "of ten", Rows.FULL, "powerBy(0, 1023) = 20", "powerBy(0, 512) = 2", "powerBy(0, 1024) ! 5", "powerBy(3, 1023) = 0");
        Rows.test(44, "without MEMBERS", "assembly: party a; = 0", "powerBy(0, 0) = 0", "powerBy(0, 1) ! 5");
        Rows.test(44, "AWAY is FAR, though FAR is 999", Rows.HOUSE, "rule(0, 999) = 1", "powerBy(1, 4) = 4", "power(1) = 3");
    }

    private static void games() {
        Rows.test(45, "0 to 3 turns", Rows.HOUSE, "game(0, 1, 0) = -2", "game(0, 1, 3) = 0", "game(0, 1, -1) ! 5", "game(0, 1, 4) ! 5", "game(0, 1, MIN) ! 5", "game(0, 1, MAX) ! 5");
        Rows.test(45, "STATUS tells NONE from -1", "assembly: party a;party b;member c of b at 1; = 1", "game(0, 1, 0) = -1", "game(0, 1, 1) = -1", "game(0, 2, 0) ! 2");
        Rows.test(45, "by turns, the first first", "assembly: party a;party b;member c of a at 0;member d of a at 0;member e of b at 0;member f of b at 0; = 4", "game(0, 1, 0) = 0", "game(0, 1, 1) = 2",
            "game(0, 1, 2) = 0", "game(0, 1, 3) = 2", "game(1, 0, 1) = 2", "game(1, 0, 3) = 2");
        Rows.test(45, "nobody can be moved", "assembly: ill 2;party a;party b;member c of a at 0 sick;member d of b at 0 dead 0;member e of b at 0 dead 1; = 3", "game(0, 1, 0) = -2", "game(0, 1, 3) = -2",
            "game(1, 0, 3) = 2");
        Rows.test(45, "without MEMBERS", "assembly: party a;party b; = 0", "game(0, 1, 0) = 0", "game(0, 1, 3) = 0");
        Rows.test(45, "ten of one PARTY", Rows.FULL, "game(0, 3, 3) = 4", "game(3, 0, 3) = -2", "game(0, 1, 2) = 2", "member(0, 1) = 0");
        Rows.test(45, "CALLED lowers what its TWIN COUNTS", "assembly: party a;party b;member c of a at 1 hidden;member d of b at 50;twins c d; = 2", "game(0, 1, 0) = -2", "game(0, 1, 1) = -1");
        Rows.test(45, "the second plays to its own gain", "assembly: party a;party b;member c of a at 999;member d of b at 0 hidden;twins c d; = 2", "game(0, 1, 0) = 1", "carry(1, 5) = 0", "game(0, 1, 1) = 2",
            "game(0, 1, 2) = 1");
    }

    private static void gameTroubles() {
        Rows.test(45, "no such PARTY, first or second", Rows.HOUSE, "game(-1, 0, 1) ! 2", "game(3, 0, 1) ! 2", "game(0, -1, 1) ! 2", "game(0, 3, 1) ! 2", "game(MIN, 0, 1) ! 2", "game(0, MAX, 1) ! 2");
        Rows.test(45, "one and itself", Rows.HOUSE, "game(0, 0, 1) ! 5", "game(2, 2, 0) ! 5", "game(3, 3, 1) ! 2", "game(2, 1, 1) = -2");
        Rows.test(46, "no such PARTY, first or second", Rows.HOUSE, "moveOf(-1, 0, 1) ! 2", "moveOf(3, 0, 1) ! 2", "moveOf(0, -1, 1) ! 2", "moveOf(0, 3, 1) ! 2", "moveOf(MIN, 0, 1) ! 2", "moveOf(0, MAX, 1) ! 2",
            "moveOf(3, 3, 0) ! 2");
        Rows.test(46, "one and itself", Rows.HOUSE, "moveOf(0, 0, 1) ! 5", "moveOf(2, 2, 3) ! 5");
        Rows.test(46, "1 to 3 turns", Rows.HOUSE, "moveOf(0, 1, 1) = 1", "moveOf(0, 1, 3) = 0", "moveOf(0, 1, 0) ! 5", "moveOf(0, 1, 4) ! 5", "moveOf(0, 1, -1) ! 5", "moveOf(0, 1, MIN) ! 5", "moveOf(0, 1, MAX) ! 5");
    }

    private static void moves() {
        Rows.test(46, "nothing", "assembly: party a;party b;member c of a at 0 sick;member d of b at 0; = 2", "moveOf(0, 1, 1) ! 8", "moveOf(0, 1, 2) ! 8", "moveOf(0, 1, 3) ! 8", "moveOf(1, 0, 1) = 3");
        Rows.test(46, "of all that are as good by MEMBER", "assembly: party a;party b;member c of b at 0;member d of a at 0;member e of a at 0; = 3", "moveOf(0, 1, 1) = 3", "carry(1, 999) = 0", "moveOf(0, 1, 1) = 5");
        Rows.test(46, "CALLED ahead of AWAY, both ahead of nothing", "assembly: party a;party b;member c of a at 5 hidden; = 1", "moveOf(0, 1, 1) = 0", "moveOf(0, 1, 3) = 0");
        Rows.test(46, "AWAY, where it is far, ahead of nothing", "assembly: party a;party b;member c of a at 999; = 1", "moveOf(0, 1, 1) = 1");
        Rows.test(46, "the tenth, AWAY: 19", "assembly: party a;party b;" + Rows.many("member # of b at 0;", 'c', 9) + "member z of a at 0; = 10", "moveOf(0, 1, 1) = 19", "hide(9, true) = 1", "moveOf(0, 1, 1) = 18");
        // c IN holds its TWIN e to 1; AWAY, its chair being HIDDEN, it would gain nothing.
        Rows.test(46, "MEMBER 0, CALLED: 0", "assembly: party a;party b;member c of a at 5 hidden;member e of b at 999;twins c e; = 2", "moveOf(0, 1, 1) = 0", "carry(0, 0) = 5", "moveOf(0, 1, 1) = 0");
        Rows.test(46, "CALLED where it is IN is as good as nothing, and ahead of it", "assembly: party a;party b;member c of a at 0 hidden;member d of b at 999;member e of b at 999;twins c d; = 3",
            "game(0, 1, 0) = -3", "game(0, 1, 1) = -3", "moveOf(0, 1, 1) = 0");
    }
}
