import java.util.ArrayList;
import java.util.List;

/** 'Terms', '==== 3.': AWAY and CALLED, GAMES, COALITIONS, TALLIES, SEEK. */
final class AwaySentences {
    /** By c and d AWAY, or by e AWAY, m has 4 FOR it and 3 AGAINST it. */
    private static final String BREAD = "assembly: party a;party b;member c of a at 1 price 4;member d of a at 1 price 4;member e of a at 0 price #;member f of b at 99;member g of b at 1;"
        + "motion m for a against b; = 5";
    private static final String FOUR_IN = "assembly: party a;party b;member c of a at 0;member d of a at 0;member e of b at 0;member f of b at 0; = 4";

    private AwaySentences() {
    }

    static void run() {
        Document.names("==== 3.");
        away();
        fewest();
        Document.names("```text");
        games();
        coalitions();
        tallies();
        seeks();
        Document.names("```");
    }

    private static void away() {
        Document.says("AWAY: as if a MEMBER were at 999 YARDS;");
        Document.test("it COUNTS so, and stays where it is", Rows.HOUSE, "rule(0, 999) = 1", "power(0) = 1", "powerBy(0, 2) = 1", "powerBy(0, 1) = 3", "powerBy(0, 3) = 4", "powerBy(1, 4) = 4", "power(1) = 3",
            "member(0, 1) = 0", "member(1, 1) = 40", "member(2, 1) = 20");
        Document.says("CALLED: as if at 0 (only living ones, not SICK).");
        Document.test("it COUNTS so", "assembly: party a;member b of a at 5; = 1", "tray(0, 0, 1) = 1", "tally(0) = 1", "sure(0) = 0", "write(0, 0, 1) = 1", "tally(0) = 0", "write(0, 0, 2) = 1", "tally(0) = 1",
            "sure(0) = 1", "member(0, 1) = 5");
        Document.test("as one that is IN its TWIN is held to 1", "assembly: party a;party z;member b of a at 5 hidden;member c of z at 99;twins b c; = 2", "game(0, 1, 0) = -2", "game(0, 1, 1) = -1", "moveOf(0, 1, 1) = 0");
        Document.test("only living ones, not SICK", "assembly: ill 0;buried 0;party a;party z;member b of a at 5 sick;member c of a at 5 dead 1;motion m for a against; = 2", "tray(0, 0, 2) = 1", "tally(0) = 1",
            "sure(0) = 0", "write(0, 0, 2) = 1", "tally(0) = 0", "write(0, 0, 4) = 1", "tally(0) = 0", "moveOf(0, 1, 1) ! 8", "game(0, 1, 3) = 0", "fewest(0) ! 8", "powerBy(0, 3) = 0");
    }

    private static void fewest() {
        Document.says("FEWEST for a MOTION: the fewest MEMBERS that must be AWAY (each, wherever it is) so that it is CARRIED:");
        Document.test("one is fewer than two", BREAD.replace("#", "9"), "margin(0) = -1", "fewest(0) = 1", "fewestSet(0) = 4", "powerBy(0, 4) = 4", "powerBy(0, 3) = 4");
        Document.test("wherever it is: IN, near, far", "assembly: party a;member b of a at 0;motion m for a against; = 1", "fewest(0) = 1", "carry(0, 1) = 0", "fewest(0) = 0", "carry(0, 999) = 1", "fewest(0) = 0");
        Document.test("all, each where it is", "assembly: party a;party b;member c of a at 0;member d of a at 1;member e of b at 99;member f of b at 1;motion m for a against b; = 4", "fewest(0) = 2", "fewestSet(0) = 3");
        Document.says("of several sets the least as a number (1 for MEMBER 0 ..).");
        Document.test("the first who are enough", "assembly: party a;party b;member c of b at 1;member d of a at 0;member e of a at 0;member f of a at 0;motion m for a against b; = 4", "fewest(0) = 1",
            "fewestSet(0) = 2", "fall(1, true) = 1", "rule(2, 0) = 1", "fewestSet(0) = 4", "carry(0, 50) = 1", "fewest(0) = 2", "fewestSet(0) = 12");
        Document.says("CHEAPEST: that set by which PRICES together are the least,");
        Document.test("two for 8, one for 9", BREAD.replace("#", "9"), "cheapest(0) = 8", "cheapestSet(0) = 3", "fewestSet(0) = 4");
        Document.test("one for 9 as the first", "assembly: party a;party b;member c of a at 0 price 9;member d of a at 1 price 4;member e of a at 1 price 4;member f of b at 99;member g of b at 1;motion m for a against b; = 5",
            "cheapest(0) = 8", "cheapestSet(0) = 6", "fewestSet(0) = 1");
        Document.test("one for 7", BREAD.replace("#", "7"), "cheapest(0) = 7", "cheapestSet(0) = 4");
        Document.says("of several the fewest,");
        Document.test("two for 8, one for 8", BREAD.replace("#", "8"), "cheapest(0) = 8", "cheapestSet(0) = 4");
        Document.says("then the least as a number.");
        Document.test("one for 3, one for 3", "assembly: party a;party b;member c of b at 1;member d of a at 0 price 3;member e of a at 0 price 3;motion m for a against b; = 3", "cheapest(0) = 3", "cheapestSet(0) = 2");
        Document.test("for nothing", "assembly: party a;party b;member c of b at 1;member d of a at 0 price 0;member e of a at 0 price 0;motion m for a against b; = 3", "cheapest(0) = 0", "cheapestSet(0) = 2");
    }

    private static void games() {
        Document.says("GAME of two PARTIES and n turns (0 to 3):");
        Document.test("0 to 3", FOUR_IN, "game(0, 1, 0) = 0", "game(0, 1, 3) = 2", "game(0, 1, 4) ! 5", "game(0, 1, -1) ! 5");
        Document.says("by turns, the first first, a PARTY has one of its MEMBERS CALLED, or AWAY, or nothing;");
        Document.test("by turns, the first first", FOUR_IN, "game(0, 1, 1) = 2", "game(0, 1, 2) = 0", "game(0, 1, 3) = 2", "game(1, 0, 1) = 2", "game(1, 0, 2) = 0", "game(1, 0, 3) = 2");
        Document.test("one of its own", "assembly: party a;party b;party c;member d of b at 0;member e of c at 0; = 2", "game(0, 1, 1) = 0", "game(0, 1, 2) = -2", "game(1, 0, 1) = 2", "game(1, 0, 3) = 2");
        Document.test("AWAY, or CALLED, though it was moved ahead", "assembly: party a;party b;member c of a at 0;member d of b at 99;twins c d; = 2", "game(0, 1, 0) = -1", "game(0, 1, 1) = 0", "game(0, 1, 2) = 0",
            "game(0, 1, 3) = 0");
        Document.test("nothing, if it has none", "assembly: party a;party b;member c of b at 0; = 1", "game(0, 1, 1) = 0", "game(0, 1, 3) = -2", "moveOf(0, 1, 1) ! 8");
        Document.test("MEMBERS there were ahead are gone", Rows.FULL, "assembly: party a;party b;member c of b at 0;member d of b at 0; = 2", "game(0, 1, 1) = 0", "moveOf(0, 1, 1) ! 8", "game(0, 1, 2) = -2");
        Document.says("at the end: POWER of the first less that of the second, by best play.");
        Document.test("as it is", Rows.HOUSE, "game(0, 1, 0) = -2", "game(1, 0, 0) = 2", "game(2, 0, 0) = 0");
        // c AWAY gains 1 while its TWIN d is IN; d AWAY then COUNTS 2, or 1 if c stayed IN.
        Document.test("best play of both", "assembly: party a;party b;member c of a at 0;member d of b at 0;twins c d; = 2", "game(0, 1, 0) = 0", "game(0, 1, 1) = 1", "game(0, 1, 2) = 0", "moveOf(0, 1, 2) = 1");
        Document.says("MOVE: the first's first one:");
        Document.test("the one that is best", "assembly: party a;party b;member c of a at 99;member d of a at 1;member e of a at 0;member f of b at 0; = 4", "moveOf(0, 1, 1) = 5", "carry(2, 99) = 0", "moveOf(0, 1, 1) = 3",
            "moveOf(1, 0, 1) = 7");
        Document.says("of all that are as good by MEMBER, CALLED ahead of AWAY; nothing comes last.");
        Document.test("by MEMBER", "assembly: party a;party b;member c of b at 0;member d of a at 0;member e of a at 0; = 3", "moveOf(0, 1, 1) = 3", "moveOf(1, 0, 1) = 1");
        Document.test("CALLED ahead of AWAY", "assembly: party a;party b;member c of a at 5 hidden;member d of a at 5 hidden; = 2", "moveOf(0, 1, 1) = 0", "moveOf(0, 1, 2) = 0", "moveOf(0, 1, 3) = 0");
        Document.test("nothing comes last", "assembly: party a;party b;member c of a at 999; = 1", "game(0, 1, 0) = 2", "game(0, 1, 1) = 2", "moveOf(0, 1, 1) = 1");
    }

    private static void coalitions() {
        String alike = "assembly: party a;party b;party c;member d of a at 99;member e of b at 99;member f of c at 99; = 3";
        Document.says("COALITIONS: a set of PARTIES WINS if its POWER is more than half of all.");
        Document.test("more than half", Rows.HOUSE, "wins(2) = 1", "wins(5) = 0", "wins(1) = 0", "wins(3) = 1", "wins(0) = 0", "wins(7) = 1");
        Document.test("half is not", "assembly: party a;party b;member c of a at 1;member d of b at 1; = 2", "wins(1) = 0", "wins(2) = 0", "wins(3) = 1", "carry(0, 0) = 1", "wins(1) = 0", "wins(2) = 1");
        Document.says("SWINGS of a PARTY: how many sets WIN with it and not without it.");
        Document.test("one has more than half", Rows.HOUSE, "swings(0) = 0", "swings(1) = 4", "swings(2) = 0");
        Document.test("three alike", alike, "swings(0) = 2", "swings(1) = 2", "swings(2) = 2");
        Document.test("4, 2, 0, then 3, 2, 0: the first alone has more than half", alike, "join(1, 0) = 1", "join(2, 1) = 2", "swings(0) = 4", "swings(1) = 0", "swings(2) = 0", "carry(0, 1) = 99", "swings(0) = 4");
        Document.says("LEAN: WINNING sets of which none can leave.");
        Document.test("one has more than half", Rows.HOUSE, "winning() = 4", "lean() = 1");
        Document.test("pairs of three alike", alike, "winning() = 4", "lean() = 3");
        Document.test("two alike, both needed", "assembly: party a;party b;party c;member d of a at 1;member e of b at 1; = 2", "winning() = 2", "lean() = 1");
    }

    private static void tallies() {
        String[] powers = {"tray(0, 0, 3) = 1", "write(0, 0, #) = 1", "write(0, 1, 4) = 1", "write(0, 2, 1) = 1"};
        Document.says("TALLY: a TRAY tells POWERS, PARTY by PARTY: in how many ways the living, not SICK, can each be CALLED or AWAY so that all POWERS are just so.");
        // ann, bob, cid and fay can be either; dot, DEAD, COUNTS 2, eve, SICK, 1, and fay, HIDDEN, 0 in both ways.
        Document.test("red 4: ann and bob AWAY", tallied(powers, "4", "tally(0) = 2"));
        Document.test("red 1: one AWAY, the other, its TWIN, IN", tallied(powers, "1", "tally(0) = 4"));
        Document.test("red 0: both CALLED", tallied(powers, "0", "tally(0) = 2"));
        Document.test("red 2, 3, 5: never", tallied(powers, "2", "tally(0) = 0", "write(0, 0, 3) = 1", "tally(0) = 0", "write(0, 0, 5) = 1", "tally(0) = 0"));
        Document.test("all POWERS", tallied(powers, "4", "write(0, 1, 2) = 1", "tally(0) = 2", "write(0, 1, 3) = 1", "tally(0) = 0", "write(0, 1, 4) = 1", "write(0, 2, 0) = 1", "tally(0) = 0"));
        Document.test("numbers behind these do not matter", tallied(powers, "4", "tray(1, 0, 5) = 1", "pour(0, 0, 1, 0, 3) = 1", "write(1, 3, 7) = 1", "tally(1) = 2"));
        Document.test("ten, of which five are AWAY", Rows.FULL, "tray(0, 0, 4) = 1", "write(0, 0, 10) = 1", "tally(0) = 252", "sure(0) = 0", "ask(0) = 0");
        Document.says("SURE: who is AWAY in all of these.");
        Document.test("ann, bob, cid", tallied(powers, "4", "sure(0) = 7"));
        Document.test("cid", tallied(powers, "1", "sure(0) = 4"));
        Document.test("nobody", tallied(powers, "0", "write(0, 1, 2) = 1", "sure(0) = 0"));
        Document.says("ASK: the MEMBER (living, not SICK) for which the greater of both numbers of WAYS (CALLED, AWAY) is the least, of several the first; none if there are not two WAYS.");
        Document.test("fay: 1 and 1, the others 2 and 0", tallied(powers, "4", "ask(0) = 5"));
        Document.test("ann, bob, fay: 2 and 2", tallied(powers, "1", "ask(0) = 0"));
        Document.test("three WAYS: 2 and 1 for each; the SICK, the DEAD are not asked", "assembly: ill 0;buried 0;party a;member b of a at 0 sick;member c of a at 0 dead 1;member d of a at 0;member e of a at 0;member f of a at 0; = 5",
            "tray(0, 0, 1) = 1", "write(0, 0, 2) = 1", "tally(0) = 3", "ask(0) = 2", "hide(2, true) = 1", "tally(0) = 4", "ask(0) = 2", "hide(2, false) = 1", "hide(4, true) = 1", "ask(0) = 2");
        // b and c are CALLED in both WAYS, d and e in one each.
        Document.test("not the first", "assembly: party a;party z;member b of a at 0;member c of a at 0;member d of z at 0;member e of z at 0; = 4", "tray(0, 0, 2) = 1", "write(0, 0, 0) = 1", "write(0, 1, 2) = 1",
            "tally(0) = 2", "ask(0) = 2");
        Document.test("one WAY, none", "assembly: party a;member b of a at 0; = 1", "tray(0, 0, 1) = 1", "tally(0) = 1", "ask(0) ! 8", "write(0, 0, 1) = 1", "tally(0) = 0", "ask(0) ! 8", "write(0, 0, 0) = 1",
            "hide(0, true) = 1", "tally(0) = 2", "ask(0) = 0");
    }

    private static String[] tallied(String[] powers, String red, String... rows) {
        List<String> all = new ArrayList<>(List.of(Rows.HOUSE));
        for (String row : powers) {
            all.add(row.replace("#", red));
        }
        return Rows.join(all.toArray(new String[0]), rows);
    }

    private static void seeks() {
        Document.says("SEEK: a chair is in one of the ROOMS, by their ODDS; the order in which all ROOMS are looked at by which it takes the fewest MINUTES in the mean till the ROOM where it is "
            + "has been looked at: of several the first by ROOMS.");
        // The attic: 20 MINUTES by 12 of 16; the hall: 30 by 4; the cellar can't have it.
        Document.test("the house", Rows.HOUSE, "seek() = 1", "top() -> 45", "bottom() -> 2", "seekAt(0) = 1", "seekAt(1) = 0", "seekAt(2) = 2");
        int[][] rooms = {{3, 2, 4, 1, 3, 0}, {1, 1, 2, 2, 3, 3}, {5, 0, 5, 0, 5, 1}, {60, 16, 59, 16, 60, 15, 4, 1}, {2, 1, 4, 2, 6, 3, 1, 1}, {1, 0, 2, 3, 4, 6, 6, 9, 8, 0, 3, 4},
            {9, 16, 8, 15, 7, 14, 6, 13, 5, 12, 4, 11}, {2, 4, 3, 6, 1, 2, 5, 10, 4, 8, 6, 12}, {60, 1, 60, 1, 1, 0, 60, 2, 30, 1, 30, 0}};
        for (int[] numbers : rooms) {
            Document.test("the best of all orders", bestOrder(numbers));
        }
    }

    /** Rows by looking at all orders: numbers are what each ROOM TAKES and its ODDS. */
    private static String[] bestOrder(int[] numbers) {
        int many = numbers.length / 2;
        StringBuilder text = new StringBuilder();
        int allOdds = 0;
        for (int r = 0; r < many; r++) {
            text.append("room ").append((char) ('a' + r)).append(" takes ").append(numbers[2 * r]).append(" odds ").append(numbers[2 * r + 1]).append(';');
            allOdds += numbers[2 * r + 1];
        }
        int[] best = new int[many + 1];
        best[many] = Integer.MAX_VALUE;
        look(numbers, new int[many], 0, best);
        int common = java.math.BigInteger.valueOf(best[many]).gcd(java.math.BigInteger.valueOf(allOdds)).intValue();
        List<String> rows = new ArrayList<>(List.of("assembly: " + text + " = 0", "seek() = 1", "top() -> " + best[many] / common, "bottom() -> " + allOdds / common));
        for (int k = 0; k < many; k++) {
            rows.add("seekAt(" + k + ") = " + best[k]);
        }
        return rows.toArray(new String[0]);
    }

    /** Orders in their own order, so that the first of the best is kept; the last place of best has its sum. */
    private static void look(int[] numbers, int[] order, int done, int[] best) {
        int many = order.length;
        if (done == many) {
            int gone = 0;
            int sum = 0;
            for (int room : order) {
                gone += numbers[2 * room];
                sum += gone * numbers[2 * room + 1];
            }
            if (sum < best[many]) {
                System.arraycopy(order, 0, best, 0, many);
                best[many] = sum;
            }
            return;
        }
        for (int room = 0; room < many; room++) {
            boolean isNew = true;
            for (int k = 0; k < done; k++) {
                isNew &= order[k] != room;
            }
            if (isNew) {
                order[done] = room;
                look(numbers, order, done + 1, best);
            }
        }
    }
}
