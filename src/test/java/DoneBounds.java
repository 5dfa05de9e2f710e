/** Promises 24 to 33: MINUTES, and what is done to MEMBERS, the law and MOTIONS. */
final class DoneBounds {
    private DoneBounds() {
    }

    static void run() {
        minutes();
        lastMinute();
        coming();
        going();
        walks();
        deaths();
        illness();
        hiding();
        carrying();
        years();
        rules();
        joins();
        sides();
    }

    private static void minutes() {
        Rows.test(24, "1 to 600 MINUTES", Rows.HOUSE, "minute(1) = 1", "minute(600) = 1", "many(8) = 601", "minute(0) ! 5", "minute(601) ! 5", "minute(-1) ! 5", "minute(MIN) ! 5", "minute(MAX) ! 5");
        Rows.test(24, "NONE with STATUS 0 if nobody governs", "minute(1) = -1", "minute(600) = -1", "many(8) = 601", "many(15) = 60");
        Rows.test(24, "the first PARTY is not nobody", "assembly: party a;member b of a at 1; = 1", "minute(1) = 0");
        Rows.test(24, "by whom it is GOVERNED then, not now", "assembly: party a;party b;member c of a at 10;member d of b at 0; = 2", "walk(0, 1) = 1", "walk(1, 2) = 1", "minute(1) = -1", "minute(1) = 1");
        Rows.test(24, "MINUTES one by one are as many at once", "assembly: bell 3;party a;party b;member c of a at 44 speed 7;member d of b at 30 speed 3; = 2", "walk(0, 1) = 1", "walk(1, 2) = 1",
            "mark() = 1", "minute(1) = -1", "minute(1) = -1", "minute(1) = -1", "minute(1) = -1", "minute(1) = -1", "minute(1) = -1", "minute(1) = 1", "minute(1) = 1", "minute(1) = 1", "bells(1) = 1",
            "many(15) = 2", "back() = 0", "minute(9) = 1", "bells(1) = 1", "many(15) = 2", "many(8) = 9", "member(0, 1) = 0", "member(1, 1) = 57");
    }

    private static void lastMinute() {
        Rows.test(24, "9,999 is the last MINUTE", Rows.after9600("minute(400) ! 7", "minute(600) ! 7", "many(8) = 9600", "minute(399) = -1", "many(8) = 9999", "many(15) = 999", "minute(1) ! 7",
            "minute(600) ! 7", "many(8) = 9999"));
        Rows.test(24, "5 ahead of 7", Rows.after9600("minute(399) = -1", "minute(0) ! 5", "minute(601) ! 5", "minute(MAX) ! 5", "minute(1) ! 7"));
        Rows.test(24, "one before the last", Rows.after9600("minute(398) = -1", "minute(2) ! 7", "minute(1) = -1", "minute(1) ! 7"));
        Rows.test(24, "9,990 is the last BELL of 10, 9,999 of 9", Rows.after9600("minute(389) = -1", "many(15) = 998", "minute(1) = -1", "many(15) = 999", "rule(3, 9) = 1", "minute(8) = -1",
            "many(15) = 999", "minute(1) = -1", "many(15) = 1000"));
        Rows.test(35, "what will be goes beyond 9,999", Rows.after9600("minute(399) = -1", "governsIn(600) ! 8", "emptyIn() = 0"));
        Rows.test(24, "an ASSEMBLY that is taken has all MINUTES again", Rows.after9600("minute(399) = -1", "assembly(0) = 0", "minute(600) = -1", "many(8) = 600"));
    }

    private static void coming() {
        String one = "assembly: party a;member b of a at 20 speed 7; = 1";
        Rows.test(24, "nearer by its SPEED, 0 at least; at 0 it STAYS", one, "walk(0, 1) = 1", "minute(1) = 0", "member(0, 1) = 13", "member(0, 4) = 1", "minute(1) = 0", "member(0, 1) = 6",
            "member(0, 4) = 1", "minute(1) = -1", "member(0, 1) = 0", "member(0, 4) = 0");
        Rows.test(24, "just as far as its SPEED", one, "carry(0, 7) = 20", "walk(0, 1) = 1", "minute(1) = -1", "member(0, 1) = 0", "member(0, 4) = 0");
        Rows.test(24, "a YARD more than its SPEED", one, "carry(0, 8) = 20", "walk(0, 1) = 1", "minute(1) = 0", "member(0, 1) = 1", "member(0, 4) = 1");
        Rows.test(24, "one that COMES at 0 STAYS behind a MINUTE", one, "carry(0, 0) = 20", "walk(0, 1) = 1", "member(0, 4) = 1", "minute(1) = -1", "member(0, 1) = 0", "member(0, 4) = 0");
        Rows.test(24, "one that STAYS, wherever it is", one, "minute(600) = 0", "member(0, 1) = 20", "member(0, 4) = 0");
        Rows.test(24, "one that came STAYS for all later MINUTES", one, "walk(0, 1) = 1", "minute(600) = -1", "member(0, 1) = 0", "member(0, 4) = 0");
        Rows.test(24, "from 999 at SPEED 1 and 99", "assembly: party a;member b of a at 999 speed 1;member c of a at 999 speed 99; = 2", "walk(0, 1) = 1", "walk(1, 1) = 1", "minute(10) = 0",
            "member(0, 1) = 989", "member(1, 1) = 9", "member(1, 4) = 1", "minute(1) = 0", "member(1, 1) = 0", "member(1, 4) = 0", "minute(600) = 0", "member(0, 1) = 388");
        Rows.test(24, "the SICK does not walk and goes on when it gets up", one, "walk(0, 1) = 1", "fall(0, true) = 1", "minute(600) = 0", "member(0, 1) = 20", "member(0, 4) = 1", "fall(0, false) = 1",
            "minute(1) = 0", "member(0, 1) = 13");
        Rows.test(24, "the SICK that COMES at 0 does not STAY", one, "carry(0, 0) = 20", "walk(0, 1) = 1", "fall(0, true) = 1", "minute(1) = 0", "member(0, 4) = 1", "fall(0, false) = 1", "minute(1) = -1",
            "member(0, 4) = 0");
        Rows.test(24, "the DEAD does not walk", one, "walk(0, 2) = 1", "die(0) = 0", "minute(9) = 0", "member(0, 1) = 20", "member(0, 4) = 0");
    }

    private static void going() {
        String one = "assembly: party a;member b of a at 990 speed 4; = 1";
        Rows.test(24, "farther by its SPEED, 999 at most; it GOES on", one, "walk(0, 2) = 1", "minute(1) = 0", "member(0, 1) = 994", "minute(1) = 0", "member(0, 1) = 998", "minute(1) = 0",
            "member(0, 1) = 999", "member(0, 4) = 2", "minute(600) = 0", "member(0, 1) = 999", "member(0, 4) = 2");
        Rows.test(24, "just to 999", one, "carry(0, 995) = 990", "walk(0, 2) = 1", "minute(1) = 0", "member(0, 1) = 999");
        Rows.test(24, "from 0 at SPEED 1 and 99", "assembly: party a;member b of a at 0 speed 1;member c of a at 0 speed 99; = 2", "walk(0, 2) = 1", "walk(1, 2) = 1", "minute(1) = 0", "member(0, 1) = 1",
            "member(1, 1) = 99", "minute(9) = 0", "member(0, 1) = 10", "member(1, 1) = 990", "minute(1) = 0", "member(1, 1) = 999", "minute(589) = 0", "member(0, 1) = 600");
    }

    private static void walks() {
        Rows.test(25, "no such MEMBER", Rows.HOUSE, "walk(0, 1) = 1", "walk(5, 1) = 1", "walk(-1, 1) ! 2", "walk(6, 1) ! 2", "walk(MIN, 1) ! 2", "walk(MAX, 1) ! 2");
        Rows.test(25, "ways are 0 to 2", Rows.HOUSE, "walk(2, 2) = 1", "walk(2, 0) = 1", "walk(2, -1) ! 5", "walk(2, 3) ! 5", "walk(2, MIN) ! 5", "walk(2, MAX) ! 5", "member(2, 4) = 0");
        Rows.test(25, "the DEAD", Rows.HOUSE, "walk(3, 0) ! 9", "walk(3, 1) ! 9", "walk(3, 2) ! 9", "walk(3, 3) ! 5", "die(0) = 4", "walk(0, 1) ! 9");
        Rows.test(25, "the SICK and the HIDDEN may", Rows.HOUSE, "walk(4, 2) = 1", "member(4, 4) = 2", "walk(5, 2) = 1", "member(5, 4) = 2");
        Rows.test(25, "as it is already", Rows.HOUSE, "walk(0, 0) = 1", "walk(0, 1) = 1", "walk(0, 1) = 1", "member(0, 4) = 1");
        Rows.test(25, "the tenth of ten", Rows.FULL, "walk(9, 2) = 1", "walk(10, 2) ! 2", "walk(10, 3) ! 2");
    }

    private static void deaths() {
        Rows.test(26, "no such MEMBER", Rows.HOUSE, "die(-1) ! 2", "die(6) ! 2", "die(MIN) ! 2", "die(MAX) ! 2");
        Rows.test(26, "how many live then, down to none", Rows.HOUSE, "die(5) = 4", "die(0) = 3", "die(1) = 2", "die(2) = 1", "die(4) = 0", "die(3) ! 9", "die(0) ! 9", "many(10) = 63", "many(9) = 0");
        Rows.test(26, "DEAD for 0 YEARS, and STAYS", Rows.HOUSE, "walk(1, 1) = 1", "die(1) = 4", "member(1, 5) = 0", "member(1, 4) = 0", "member(1, 1) = 40");
        Rows.test(26, "SICK and HIDDEN are as they were", Rows.HOUSE, "die(4) = 4", "member(4, 6) = 1", "many(11) = 16", "counts(4) = 2", "die(5) = 3", "member(5, 7) = 1", "counts(5) = 0");
        Rows.test(26, "DEAD by the text", Rows.HOUSE, "die(3) ! 9", "member(3, 5) = 5");
        Rows.test(26, "the tenth of ten", Rows.FULL, "die(9) = 9", "many(10) = 512", "die(10) ! 2");
        Rows.test(26, "by BURIED 0 it COUNTS still", "assembly: buried 0;party a;member b of a at 0; = 1", "die(0) = 0", "counts(0) = 2", "year() = 1", "counts(0) = 0");
    }

    private static void illness() {
        Rows.test(27, "no such MEMBER", Rows.HOUSE, "fall(-1, true) ! 2", "fall(6, true) ! 2", "fall(MIN, false) ! 2", "fall(MAX, false) ! 2");
        Rows.test(27, "it is so", Rows.HOUSE, "fall(0, false) ! 9", "fall(0, true) = 1", "fall(0, true) ! 9", "member(0, 6) = 1", "fall(0, false) = 1", "fall(0, false) ! 9", "member(0, 6) = 0");
        Rows.test(27, "the DEAD, SICK or not", Rows.HOUSE, "fall(3, true) ! 9", "fall(3, false) ! 9", "die(4) = 4", "fall(4, false) ! 9", "fall(4, true) ! 9", "member(4, 6) = 1");
        Rows.test(27, "the tenth of ten", Rows.FULL, "fall(9, true) = 1", "many(11) = 512", "fall(10, true) ! 2");
        Rows.test(27, "it keeps its way and YARDS", Rows.HOUSE, "walk(1, 1) = 1", "fall(1, true) = 1", "member(1, 4) = 1", "member(1, 1) = 40", "fall(1, false) = 1", "member(1, 4) = 1");
    }

    private static void hiding() {
        Rows.test(28, "no such MEMBER", Rows.HOUSE, "hide(-1, true) ! 2", "hide(6, true) ! 2", "hide(MIN, false) ! 2", "hide(MAX, false) ! 2");
        Rows.test(28, "it is so", Rows.HOUSE, "hide(5, true) ! 9", "hide(5, false) = 1", "hide(5, false) ! 9", "member(5, 7) = 0", "hide(5, true) = 1", "hide(5, true) ! 9", "member(5, 7) = 1");
        Rows.test(28, "of the DEAD and the SICK, too", Rows.HOUSE, "hide(3, true) = 1", "counts(3) = 0", "hide(3, false) = 1", "counts(3) = 2", "hide(4, true) = 1", "counts(4) = 0");
        Rows.test(28, "the tenth of ten", Rows.FULL, "hide(9, true) = 1", "member(9, 7) = 1", "hide(10, true) ! 2");
    }

    private static void carrying() {
        Rows.test(29, "no such MEMBER", Rows.HOUSE, "carry(-1, 0) ! 2", "carry(6, 0) ! 2", "carry(MIN, 0) ! 2", "carry(MAX, 0) ! 2", "carry(6, -1) ! 2");
        Rows.test(29, "0 to 999 YARDS", Rows.HOUSE, "carry(0, 999) = 0", "carry(0, 0) = 999", "carry(0, 1) = 0", "carry(0, -1) ! 5", "carry(0, 1000) ! 5", "carry(0, MIN) ! 5", "carry(0, MAX) ! 5",
            "member(0, 1) = 1");
        Rows.test(29, "the DEAD, behind a NUMBER that can't be", Rows.HOUSE, "carry(3, 0) ! 9", "carry(3, 999) ! 9", "carry(3, 1000) ! 5", "carry(3, -1) ! 5", "member(3, 1) = 60");
        Rows.test(29, "the SICK and the HIDDEN", Rows.HOUSE, "carry(4, 999) = 0", "carry(5, 0) = 10", "many(9) = 33");
        Rows.test(29, "to where it is", Rows.HOUSE, "carry(0, 0) = 0", "member(0, 1) = 0");
        Rows.test(29, "the tenth of ten", Rows.FULL, "carry(9, 5) = 0", "carry(10, 5) ! 2");
    }

    private static void years() {
        Rows.test(30, "nobody, and none of the DEAD", "year() = 0", Rows.FULL, "year() = 0", "member(0, 5) ! 8");
        Rows.test(30, "99 at most", "assembly: buried 99;party a;member b of a at 0 dead 98; = 1", "year() = 0", "member(0, 5) = 99", "year() = 0", "member(0, 5) = 99", "counts(0) = 2");
        Rows.test(30, "those who COUNT no more, and did", "assembly: buried 5;party a;member b of a at 0 dead 4;member c of a at 0 dead 5;member d of a at 0 dead 6; = 3", "year() = 1", "year() = 1",
            "year() = 0");
        Rows.test(30, "a HIDDEN one did not COUNT", "assembly: buried 5;party a;member b of a at 0 dead 5 hidden; = 1", "year() = 0", "member(0, 5) = 6");
        Rows.test(30, "one that COUNTS 1 by its TWIN did", "assembly: buried 5;party a;member b of a at 0 dead 5;member c of a at 0;twins b c; = 2", "counts(0) = 1", "year() = 1", "counts(0) = 0");
        Rows.test(30, "all ten at once", "assembly: buried 0;party a;" + Rows.many("member # of a at 0 dead 0;", 'b', 10) + " = 10", "year() = 10", "many(14) = 0", "year() = 0", "member(9, 5) = 2");
        Rows.test(30, "BURIED 98, at 98 and 99 YEARS", "assembly: buried 98;party a;member b of a at 0 dead 98;member c of a at 0 dead 99; = 2", "year() = 1", "year() = 0");
        Rows.test(30, "the MINUTE and BELLS stay", Rows.HOUSE, "minute(4) = 1", "year() = 1", "many(8) = 4", "bells(1) = 1");
    }

    private static void rules() {
        Rows.test(31, "what is 0 to 3", "rule(0, 1) = 1", "rule(3, 1) = 1", "rule(-1, 1) ! 5", "rule(4, 1) ! 5", "rule(MIN, 1) ! 5", "rule(MAX, 1) ! 5");
        Rows.test(31, "FAR 1 to 999", "rule(0, 1) = 1", "rule(0, 0) ! 5", "many(4) = 1", "rule(0, 999) = 1", "rule(0, 1000) ! 5", "many(4) = 999", "rule(0, MIN) ! 5", "rule(0, MAX) ! 5");
        Rows.test(31, "BURIED 0 to 99", "rule(1, 0) = 1", "rule(1, -1) ! 5", "many(5) = 0", "rule(1, 99) = 1", "rule(1, 100) ! 5", "many(5) = 99", "rule(1, MIN) ! 5", "rule(1, MAX) ! 5");
        Rows.test(31, "ILL 0 to 2", "rule(2, 0) = 1", "rule(2, -1) ! 5", "many(6) = 0", "rule(2, 2) = 1", "rule(2, 3) ! 5", "many(6) = 2", "rule(2, MIN) ! 5", "rule(2, MAX) ! 5");
        Rows.test(31, "BELL 1 to 60", "rule(3, 1) = 1", "rule(3, 0) ! 5", "many(7) = 1", "rule(3, 60) = 1", "rule(3, 61) ! 5", "many(7) = 60", "rule(3, MIN) ! 5", "rule(3, MAX) ! 5");
        Rows.test(31, "from now on: a BELL by multiples of the new one", "minute(10) = -1", "many(15) = 1", "rule(3, 11) = 1", "minute(1) = -1", "many(15) = 2", "rule(3, 7) = 1", "minute(2) = -1",
            "many(15) = 2", "minute(1) = -1", "many(15) = 3");
        Rows.test(31, "of an ASSEMBLY of nobody", "rule(0, 5) = 1", "many(4) = 5", "many(5) = 9", "many(6) = 1", "many(7) = 10");
    }

    private static void joins() {
        Rows.test(32, "no such MEMBER", Rows.HOUSE, "join(-1, 0) ! 2", "join(6, 0) ! 2", "join(MIN, 0) ! 2", "join(MAX, 0) ! 2");
        Rows.test(32, "no such PARTY", Rows.HOUSE, "join(0, -1) ! 2", "join(0, 3) ! 2", "join(0, MIN) ! 2", "join(0, MAX) ! 2");
        Rows.test(32, "it is that", Rows.HOUSE, "join(0, 0) ! 9", "join(5, 2) ! 9", "join(0, 2) = 0", "join(0, 2) ! 9", "join(0, 0) = 2");
        Rows.test(32, "the tenth of ten to the fourth of four", Rows.FULL, "join(9, 3) = 0", "member(9, 0) = 3", "join(9, 4) ! 2", "join(10, 3) ! 2");
        Rows.test(32, "the DEAD, the SICK, the HIDDEN", Rows.HOUSE, "join(3, 0) = 1", "join(4, 0) = 2", "join(5, 1) = 2", "power(0) = 4", "power(1) = 1", "power(2) = 0");
        Rows.test(32, "all ten", Rows.FULL, "carry(0, 999) = 0", "join(0, 1) = 0", "power(0) = 0", "power(1) = 2", "governs() = 1");
    }

    private static void sides() {
        Rows.test(33, "no such MOTION", Rows.HOUSE, "side(-1, 0, 0) ! 2", "side(2, 0, 0) ! 2", "side(MIN, 0, 0) ! 2", "side(MAX, 0, 0) ! 2");
        Rows.test(33, "no such PARTY", Rows.HOUSE, "side(0, -1, 0) ! 2", "side(0, 3, 0) ! 2", "side(0, MIN, 0) ! 2", "side(0, MAX, 0) ! 2");
        Rows.test(33, "side is 0 to 2", Rows.HOUSE, "side(0, 0, -1) ! 5", "side(0, 0, 3) ! 5", "side(0, 0, MIN) ! 5", "side(0, 0, MAX) ! 5", "side(0, 0, 2) = 1", "motion(0, 0) = 0", "side(0, 0, 0) = 1",
            "motion(0, 0) = 1", "side(0, 0, 1) = 1", "motion(0, 0) = 0", "motion(0, 1) = 3");
        Rows.test(33, "as it is already", Rows.HOUSE, "side(0, 0, 0) = 1", "motion(0, 0) = 1", "side(0, 1, 1) = 1", "motion(0, 1) = 2", "side(0, 2, 2) = 1", "motion(0, 0) = 1", "motion(0, 1) = 2");
        Rows.test(33, "none is both", Rows.HOUSE, "side(1, 0, 0) = 1", "motion(1, 0) = 7", "motion(1, 1) = 0", "side(1, 0, 1) = 1", "side(1, 1, 1) = 1", "side(1, 2, 1) = 1", "motion(1, 0) = 0",
            "motion(1, 1) = 7");
        Rows.test(33, "the fourth PARTY in the fifth MOTION", Rows.FULL, "side(4, 3, 0) = 1", "motion(4, 0) = 9", "side(5, 3, 0) ! 2", "side(4, 4, 0) ! 2", "motion(3, 0) = 1");
    }
}
