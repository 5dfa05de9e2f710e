/** Promises 34 to 39: what will be. */
final class FutureBounds {
    // d GOES from 0 by 1, e COMES from 20 by 7; f is DEAD, g SICK, both HIDDEN.
    private static final String[] WALKING = {"assembly: far 30;party a;party b;member d of a at 0 speed 1;member e of b at 20 speed 7;member f of b at 50 dead 0 hidden;"
        + "member g of b at 50 sick hidden;motion m for a against b;motion n for b against a;motion o for against; = 4", "walk(0, 2) = 1", "walk(1, 1) = 1", "walk(3, 1) = 1"};

    private FutureBounds() {
    }

    static void run() {
        yards();
        governors();
        firsts();
        carried();
        reigns();
        empty();
    }

    private static void walking(int promise, String title, String... rows) {
        Rows.test(promise, title, Rows.join(WALKING, rows));
    }

    private static void yards() {
        walking(34, "no such MEMBER", "yardsIn(3, 0) = 50", "yardsIn(-1, 0) ! 2", "yardsIn(4, 0) ! 2", "yardsIn(MIN, 0) ! 2", "yardsIn(MAX, 0) ! 2", "yardsIn(4, 601) ! 2");
        walking(34, "0 to 600 MINUTES", "yardsIn(0, 0) = 0", "yardsIn(0, 600) = 600", "yardsIn(0, -1) ! 5", "yardsIn(0, 601) ! 5", "yardsIn(0, MIN) ! 5", "yardsIn(0, MAX) ! 5");
        walking(34, "0 at least", "yardsIn(1, 2) = 6", "yardsIn(1, 3) = 0", "yardsIn(1, 4) = 0", "yardsIn(1, 600) = 0");
        walking(34, "999 at most", "carry(0, 400) = 0", "yardsIn(0, 598) = 998", "yardsIn(0, 599) = 999", "yardsIn(0, 600) = 999");
        walking(34, "the DEAD, the SICK, who STAYS", "yardsIn(2, 600) = 50", "yardsIn(3, 600) = 50", "walk(0, 0) = 1", "yardsIn(0, 600) = 0");
        Rows.test(34, "at the greatest SPEED", "assembly: party a;member b of a at 0 speed 99;member c of a at 999 speed 99; = 2", "walk(0, 2) = 1", "walk(1, 1) = 1", "yardsIn(0, 10) = 990",
            "yardsIn(0, 11) = 999", "yardsIn(0, 600) = 999", "yardsIn(1, 10) = 9", "yardsIn(1, 11) = 0", "yardsIn(1, 600) = 0");
        walking(34, "nothing went by", "yardsIn(0, 600) = 600", "many(8) = 0", "member(0, 1) = 0", "member(1, 4) = 1");
        Rows.test(34, "the tenth of ten", Rows.FULL, "yardsIn(9, 0) = 0", "yardsIn(10, 0) ! 2");
    }

    // e COUNTS 1 till it is IN in 3 MINUTES; d COUNTS 1 from 1 MINUTE on.
    private static void governors() {
        walking(35, "0 to 600 MINUTES", "governsIn(0) = 1", "governsIn(600) = 0", "governsIn(-1) ! 5", "governsIn(601) ! 5", "governsIn(MIN) ! 5", "governsIn(MAX) ! 5");
        walking(35, "nobody between", "governsIn(1) ! 8", "governsIn(2) ! 8", "governsIn(3) = 0");
        Rows.test(35, "nobody at all", "governsIn(0) ! 8", "governsIn(600) ! 8", "governsIn(601) ! 5");
    }

    private static void firsts() {
        walking(36, "no such PARTY", "firstIn(0) = 3", "firstIn(1) = 0", "firstIn(-1) ! 2", "firstIn(2) ! 2", "firstIn(MIN) ! 2", "firstIn(MAX) ! 2");
        String late = "assembly: far 600;party a;party b;member d of a at 0 speed 1;member e of b at 5; = 2";
        Rows.test(36, "in 600 MINUTES, the last", late, "walk(0, 2) = 1", "firstIn(0) = 600");
        Rows.test(36, "in 601, one too late", late.replace("far 600", "far 601"), "walk(0, 2) = 1", "firstIn(0) ! 8");
        Rows.test(36, "now: 0", late, "firstIn(1) = 0", "firstIn(0) ! 8");
        Rows.test(36, "for a MINUTE alone", "assembly: far 2;party a;party b;member d of a at 1 speed 1;member e of b at 0 speed 1; = 2", "walk(0, 2) = 1", "walk(1, 2) = 1", "firstIn(0) = 0", "firstIn(1) ! 8",
            "minute(1) = 0", "firstIn(0) = 0", "minute(1) = -1", "firstIn(0) ! 8");
        Rows.test(36, "the fourth of four", Rows.FULL, "firstIn(3) ! 8", "firstIn(4) ! 2");
        walking(36, "9,999 does not matter", "minute(600) = 0", "minute(600) = 0", "minute(600) = 0", "minute(600) = 0", "minute(600) = 0", "minute(600) = 0", "minute(600) = 0", "minute(600) = 0",
            "minute(600) = 0", "minute(600) = 0", "minute(600) = 0", "minute(600) = 0", "minute(600) = 0", "minute(600) = 0", "minute(600) = 0", "minute(600) = 0", "minute(399) = 0", "carry(0, 0) = 999",
            "firstIn(0) = 1", "carriedIn(0) = 1", "reign(0, 600) = 600", "governsIn(600) = 0", "yardsIn(0, 600) = 600", "emptyIn() ! 8");
    }

    private static void carried() {
        walking(37, "no such MOTION", "carriedIn(0) = 3", "carriedIn(1) = 0", "carriedIn(2) ! 8", "carriedIn(-1) ! 2", "carriedIn(3) ! 2", "carriedIn(MIN) ! 2", "carriedIn(MAX) ! 2");
        String late = "assembly: far 600;party a;party b;member d of a at 0 speed 1;member e of b at 5;motion m for a against b; = 2";
        Rows.test(37, "in 600 MINUTES, the last", late, "walk(0, 2) = 1", "carriedIn(0) = 600");
        Rows.test(37, "in 601, one too late", late.replace("far 600", "far 601"), "walk(0, 2) = 1", "carriedIn(0) ! 8");
        Rows.test(37, "the fifth of five", Rows.FULL, "carriedIn(4) ! 8", "carriedIn(5) ! 2", "carry(0, 1) = 0", "carriedIn(4) = 0");
    }

    private static void reigns() {
        walking(38, "no such PARTY", "reign(0, 600) = 598", "reign(-1, 1) ! 2", "reign(2, 1) ! 2", "reign(MIN, 1) ! 2", "reign(MAX, 1) ! 2", "reign(2, 0) ! 2");
        walking(38, "1 to 600 MINUTES", "reign(0, 1) = 0", "reign(0, 2) = 0", "reign(0, 3) = 1", "reign(0, 600) = 598", "reign(0, 0) ! 5", "reign(0, 601) ! 5", "reign(0, -1) ! 5", "reign(0, MIN) ! 5",
            "reign(0, MAX) ! 5");
        walking(38, "now does not count", "governs() = 1", "reign(1, 1) = 0", "reign(1, 600) = 0");
        Rows.test(38, "all of 600", "assembly: party a;member b of a at 1; = 1", "reign(0, 1) = 1", "reign(0, 600) = 600");
        Rows.test(38, "the fourth of four", Rows.FULL, "reign(3, 600) = 0", "reign(4, 600) ! 2");
    }

    private static void empty() {
        walking(39, "now: 0", "carry(0, 1) = 0", "emptyIn() = 0");
        walking(39, "in 1, when d is out and e not yet in", "emptyIn() = 1");
        Rows.test(39, "nobody is there", "emptyIn() = 0", "assembly: party a; = 0", "emptyIn() = 0");
        Rows.test(39, "all STAY in", Rows.FULL, "emptyIn() ! 8");
        Rows.test(39, "one of ten stays in", Rows.FULL, "walk(0, 2) = 1", "walk(1, 2) = 1", "walk(2, 2) = 1", "walk(3, 2) = 1", "walk(4, 2) = 1", "walk(5, 2) = 1", "walk(6, 2) = 1", "walk(7, 2) = 1",
            "walk(8, 2) = 1", "emptyIn() ! 8", "walk(9, 2) = 1", "emptyIn() = 1");
        Rows.test(39, "the SICK and the DEAD are not IN", "assembly: party a;member b of a at 0 sick;member c of a at 0 dead 0; = 2", "emptyIn() = 0", "fall(0, false) = 1", "emptyIn() ! 8");
        Rows.test(39, "one that COMES is in at last, one that GOES left by then", "assembly: party a;member b of a at 0 speed 1;member c of a at 1 speed 1; = 2", "walk(0, 2) = 1", "walk(1, 1) = 1",
            "emptyIn() ! 8", "carry(1, 2) = 1", "emptyIn() = 1");
    }
}
