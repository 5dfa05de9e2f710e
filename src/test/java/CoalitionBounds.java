/** Promises 47 to 51: COALITIONS, SWINGS, LEAN sets. */
final class CoalitionBounds {
    /** Four PARTIES, of which the first has 2, the second 2, the third 2, the fourth 2. */
    private static final String ALIKE = "assembly: " + Rows.many("party #;", 'a', 4) + "member e of a at 99;member f of b at 99;member g of c at 99;member h of d at 99; = 4";

    private CoalitionBounds() {
    }

    static void run() {
        winning();
        wins();
        swings();
        shares();
        lean();
    }

    private static void winning() {
        Rows.test(47, "without PARTIES", "winning() = 0");
        Rows.test(47, "without POWER", Rows.FULL, "winning() = 0");
        Rows.test(47, "one PARTY", "assembly: party a;member b of a at 1; = 1", "winning() = 1", "carry(0, 0) = 1", "winning() = 0");
        Rows.test(47, "more than half: of four alike three or four", ALIKE, "winning() = 5");
        Rows.test(47, "one has all: half of the sets", Rows.FULL, "carry(0, 1) = 0", "winning() = 8");
        Rows.test(47, "two alike: both alone", "assembly: party a;party b;member c of a at 1;member d of b at 1; = 2", "winning() = 1");
    }

    private static void wins() {
        Rows.test(48, "sets of PARTIES", Rows.HOUSE, "wins(0) = 0", "wins(7) = 1", "wins(8) ! 5", "wins(-1) ! 5", "wins(9) ! 5", "wins(MIN) ! 5", "wins(MAX) ! 5");
        Rows.test(48, "of none", "wins(0) = 0", "wins(1) ! 5", "wins(-1) ! 5");
        Rows.test(48, "of four", ALIKE, "wins(15) = 1", "wins(16) ! 5");
        Rows.test(48, "half is not more than half", ALIKE, "wins(3) = 0", "wins(12) = 0", "wins(7) = 1", "carry(0, 1) = 99", "wins(6) = 1", "wins(9) = 0", "wins(3) = 0");
        Rows.test(48, "all without POWER do not", Rows.FULL, "wins(15) = 0", "wins(0) = 0");
    }

    private static void swings() {
        Rows.test(49, "no such PARTY", Rows.HOUSE, "swings(0) = 0", "swings(1) = 4", "swings(2) = 0", "swings(-1) ! 2", "swings(3) ! 2", "swings(MIN) ! 2", "swings(MAX) ! 2");
        Rows.test(49, "the fourth of four", ALIKE, "swings(3) = 3", "swings(0) = 3", "swings(4) ! 2");
        Rows.test(49, "the most: all eight sets with it", Rows.FULL, "carry(0, 1) = 0", "swings(0) = 8", "swings(1) = 0", "swings(3) = 0");
        Rows.test(49, "without POWER", Rows.FULL, "swings(0) = 0");
    }

    private static void shares() {
        Rows.test(50, "no such PARTY", Rows.HOUSE, "share(0) = 1", "share(2) = 1", "share(-1) ! 2", "share(3) ! 2", "share(MIN) ! 2", "share(MAX) ! 2");
        Rows.test(50, "there are none", Rows.FULL, "share(0) ! 8", "share(3) ! 8", "share(4) ! 2", "top() -> 0", "bottom() -> 1");
        Rows.test(50, "one SWING in all", "assembly: party a;member b of a at 1; = 1", "swings(0) = 1", "share(0) = 1", "top() -> 1", "bottom() -> 1");
        Rows.test(50, "0 is 0 by 1", Rows.FULL, "carry(0, 1) = 0", "share(1) = 1", "top() -> 0", "bottom() -> 1", "share(0) = 1", "top() -> 1", "bottom() -> 1");
        Rows.test(50, "without a common divisor", ALIKE, "share(3) = 1", "top() -> 1", "bottom() -> 4");
        Rows.test(50, "refused, the one told ahead stays", ALIKE, "share(3) = 1", "share(4) ! 2", "top() -> 1", "bottom() -> 4");
    }

    private static void lean() {
        Rows.test(51, "without PARTIES, without POWER", "lean() = 0", Rows.FULL, "lean() = 0");
        Rows.test(51, "one has all", Rows.FULL, "carry(0, 1) = 0", "lean() = 1");
        Rows.test(51, "three of four alike", ALIKE, "lean() = 4");
        Rows.test(51, "six: a with one of three, or these three", ALIKE, "carry(1, 1) = 99", "carry(2, 1) = 99", "carry(3, 1) = 99", "lean() = 4", "winning() = 8");
        Rows.test(51, "the first, the last can leave", "assembly: party a;party b;party c;member d of b at 1; = 1", "winning() = 4", "lean() = 1");
        Rows.test(51, "one PARTY", "assembly: party a;member b of a at 1; = 1", "lean() = 1");
    }
}
