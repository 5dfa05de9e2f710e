/** Promises 13 to 23: what there is, what a MEMBER COUNTS, POWER, who GOVERNS, what is CARRIED. */
final class CountBounds {
    private CountBounds() {
    }

    static void run() {
        manies();
        fullSets();
        members();
        motionsAndRooms();
        counts();
        countsTwins();
        powers();
        governed();
        bells();
        margins();
        copies();
    }

    private static void manies() {
        Rows.test(13, "what is 0 to 15", Rows.HOUSE, "many(0) = 3", "many(15) = 0", "many(-1) ! 5", "many(16) ! 5", "many(MIN) ! 5", "many(MAX) ! 5");
        Rows.test(13, "nothing of each", "assembly(0) = 0", "many(0) = 0", "many(1) = 0", "many(2) = 0", "many(3) = 0", "many(9) = 0", "many(10) = 0", "many(11) = 0", "many(12) = 0",
            "many(13) = 0", "many(14) = 0", "many(15) = 0");
        Rows.test(13, "the most of each", Rows.FULL, "many(0) = 4", "many(1) = 10", "many(2) = 5", "many(3) = 6");
        Rows.test(13, "the law at its most", "rule(0, 999) = 1", "rule(1, 99) = 1", "rule(2, 2) = 1", "rule(3, 60) = 1", "many(4) = 999", "many(5) = 99", "many(6) = 2", "many(7) = 60");
        Rows.test(13, "the law at its least", "rule(0, 1) = 1", "rule(1, 0) = 1", "rule(2, 0) = 1", "rule(3, 1) = 1", "many(4) = 1", "many(5) = 0", "many(6) = 0", "many(7) = 1");
    }

    private static void fullSets() {
        String ten = "party a;" + Rows.many("member # of a at 0#;", 'b', 10);
        Rows.test(13, "all IN", Rows.FULL, "many(9) = 1023", "many(10) = 0", "many(11) = 0", "many(14) = 0");
        Rows.test(13, "all DEAD", "assembly: " + ten.replaceAll("at 0.;", "at 0 dead 99;") + " = 10", "many(9) = 0", "many(10) = 1023", "many(11) = 0", "many(14) = 0");
        Rows.test(13, "all SICK", "assembly: " + ten.replaceAll("at 0.;", "at 0 sick;") + " = 10", "many(9) = 0", "many(10) = 0", "many(11) = 1023", "many(14) = 10");
        Rows.test(13, "all DEAD and SICK", "assembly: " + ten.replaceAll("at 0.;", "at 0 dead 0 sick;") + " = 10", "many(9) = 0", "many(10) = 1023", "many(11) = 1023", "many(14) = 20");
        Rows.test(13, "the first alone, the last alone", Rows.FULL, "die(0) = 9", "fall(9, true) = 1", "many(9) = 510", "many(10) = 1", "many(11) = 512");
        Rows.test(13, "IN at 0 YARDS, not at 1", Rows.FULL, "carry(0, 1) = 0", "many(9) = 1022", "carry(0, 0) = 1", "many(9) = 1023");
        Rows.test(13, "IN though its chair is HIDDEN", Rows.FULL, "hide(9, true) = 1", "many(9) = 1023");
        Rows.test(13, "all CARRIED, ACTED if one is IN", "assembly: party a;member b of a at 1;member c of a at 1;" + Rows.many("motion # for a against;", 'o', 5) + " = 2", "many(12) = 31",
            "many(13) = 0", "carry(1, 0) = 1", "many(12) = 31", "many(13) = 31", "fall(1, true) = 1", "many(13) = 0", "fall(1, false) = 1", "many(13) = 31", "die(1) = 1", "many(12) = 31",
            "many(13) = 0");
        Rows.test(13, "CARRIED is greater, not as great", "assembly: party a;party b;member c of a at 1;member d of b at 1;motion m for a against b;motion n for against;motion o for b against a; = 2",
            "many(12) = 0", "carry(0, 50) = 1", "many(12) = 1", "carry(1, 50) = 1", "many(12) = 0", "carry(0, 0) = 50", "many(12) = 4", "many(13) = 4");
        Rows.test(13, "all POWER: 20 at most", "assembly: party a;party b;" + Rows.many("member # of a at 999;", 'c', 5) + Rows.many("member # of b at 999;", 'k', 5) + " = 10", "many(14) = 20",
            "power(0) = 10", "power(1) = 10");
        Rows.test(13, "BELLS for nobody: all of 600", "rule(3, 1) = 1", "minute(600) = -1", "many(15) = 600", "many(8) = 600");
    }

    private static void members() {
        Rows.test(14, "no such MEMBER", Rows.HOUSE, "member(0, 0) = 0", "member(5, 0) = 2", "member(-1, 0) ! 2", "member(6, 0) ! 2", "member(MIN, 0) ! 2", "member(MAX, 0) ! 2");
        Rows.test(14, "what is 0 to 8", Rows.HOUSE, "member(0, 0) = 0", "member(0, 8) = 1", "member(0, -1) ! 5", "member(0, 9) ! 5", "member(0, MIN) ! 5", "member(0, MAX) ! 5");
        Rows.test(14, "the tenth of ten", Rows.FULL, "member(9, 0) = 0", "member(10, 0) ! 2", "member(9, 9) ! 5");
        Rows.test(14, "in an ASSEMBLY of nobody", "member(0, 0) ! 2", "member(0, 9) ! 2", "member(-1, -1) ! 2");
        Rows.test(14, "STAYS, COMES, GOES", Rows.HOUSE, "member(2, 4) = 0", "walk(2, 1) = 1", "member(2, 4) = 1", "walk(2, 2) = 1", "member(2, 4) = 2", "walk(2, 0) = 1", "member(2, 4) = 0");
        Rows.test(14, "YEARS: 8 if it lives, 0 when it has just died", Rows.HOUSE, "member(0, 5) ! 8", "die(0) = 4", "member(0, 5) = 0", "year() = 1", "member(0, 5) = 1");
        Rows.test(14, "SICK, HIDDEN: 0 and 1", Rows.HOUSE, "member(4, 6) = 1", "member(5, 6) = 0", "member(4, 7) = 0", "member(5, 7) = 1");
        Rows.test(14, "its TWIN, 0 being one, too; 8 without", Rows.HOUSE, "member(1, 8) = 0", "member(0, 8) = 1", "member(2, 8) ! 8", "die(0) = 4", "member(1, 8) = 0", "member(0, 8) = 1");
    }

    private static void motionsAndRooms() {
        Rows.test(15, "no such MOTION", Rows.HOUSE, "motion(0, 0) = 1", "motion(1, 0) = 6", "motion(-1, 0) ! 2", "motion(2, 0) ! 2", "motion(MIN, 0) ! 2", "motion(MAX, 0) ! 2");
        Rows.test(15, "side is 0 or 1", Rows.HOUSE, "motion(0, 1) = 2", "motion(0, -1) ! 5", "motion(0, 2) ! 5", "motion(0, MIN) ! 5", "motion(0, MAX) ! 5");
        Rows.test(15, "the fifth of five", Rows.FULL, "motion(4, 0) = 1", "motion(4, 1) = 2", "motion(5, 0) ! 2");
        Rows.test(15, "the sets nobody and all", Rows.FULL, "side(0, 0, 2) = 1", "motion(0, 0) = 0", "side(0, 0, 1) = 1", "side(0, 2, 1) = 1", "side(0, 3, 1) = 1", "motion(0, 1) = 15");
        Rows.test(15, "without MOTIONS", "motion(0, 0) ! 2", "motion(0, 2) ! 2");
        Rows.test(16, "no such ROOM", Rows.HOUSE, "room(0, 0) = 10", "room(2, 0) = 5", "room(-1, 0) ! 2", "room(3, 0) ! 2", "room(MIN, 0) ! 2", "room(MAX, 0) ! 2");
        Rows.test(16, "what is 0 or 1", Rows.HOUSE, "room(0, 1) = 4", "room(0, -1) ! 5", "room(0, 2) ! 5", "room(0, MIN) ! 5", "room(0, MAX) ! 5");
        Rows.test(16, "the sixth of six", Rows.FULL, "room(5, 0) = 1", "room(5, 1) = 1", "room(6, 0) ! 2");
        Rows.test(16, "without ROOMS", "room(0, 0) ! 2", "room(0, 2) ! 2");
    }

    private static void counts() {
        Rows.test(17, "no such MEMBER", Rows.HOUSE, "counts(0) = 0", "counts(5) = 0", "counts(-1) ! 2", "counts(6) ! 2", "counts(MIN) ! 2", "counts(MAX) ! 2");
        Rows.test(17, "the tenth of ten", Rows.FULL, "counts(9) = 0", "counts(10) ! 2");
        Rows.test(17, "2 at FAR YARDS or more, 1 at fewer above 0, 0 if it is IN", "assembly: party a;member b of a at 50; = 1", "counts(0) = 2", "carry(0, 49) = 50", "counts(0) = 1",
            "carry(0, 51) = 49", "counts(0) = 2", "carry(0, 1) = 51", "counts(0) = 1", "carry(0, 0) = 1", "counts(0) = 0", "carry(0, 999) = 0", "counts(0) = 2");
        Rows.test(17, "FAR 1: nothing between", "assembly: far 1;party a;member b of a at 1; = 1", "counts(0) = 2", "carry(0, 0) = 1", "counts(0) = 0");
        Rows.test(17, "FAR 999", "assembly: far 999;party a;member b of a at 998; = 1", "counts(0) = 1", "carry(0, 999) = 998", "counts(0) = 2");
        Rows.test(17, "DEAD: 2 for BURIED YEARS at most, 0 for more", "assembly: party a;member b of a at 0 dead 9;member c of a at 999 dead 10;member d of a at 5 dead 0; = 3", "counts(0) = 2",
            "counts(1) = 0", "counts(2) = 2", "rule(1, 8) = 1", "counts(0) = 0", "rule(1, 10) = 1", "counts(1) = 2");
        Rows.test(17, "BURIED 0 and 99", "assembly: buried 0;party a;member b of a at 0 dead 0;member c of a at 0 dead 1;member d of a at 0 dead 99; = 3", "counts(0) = 2", "counts(1) = 0",
            "counts(2) = 0", "rule(1, 98) = 1", "counts(1) = 2", "counts(2) = 0", "rule(1, 99) = 1", "counts(2) = 2");
        Rows.test(17, "SICK: as ILL tells, wherever it is", "assembly: ill 0;party a;member b of a at 0 sick;member c of a at 999 sick; = 2", "counts(0) = 0", "counts(1) = 0", "rule(2, 1) = 1",
            "counts(0) = 1", "counts(1) = 1", "rule(2, 2) = 1", "counts(0) = 2", "counts(1) = 2");
        Rows.test(17, "HIDDEN ahead of all, DEAD ahead of SICK", "assembly: ill 2;buried 0;party a;member b of a at 999 hidden;member c of a at 0 dead 0 hidden;member d of a at 0 sick hidden;"
            + "member e of a at 999 dead 1 sick;member f of a at 0 dead 0 sick; = 5", "counts(0) = 0", "counts(1) = 0", "counts(2) = 0", "counts(3) = 0", "counts(4) = 2", "rule(2, 0) = 1",
            "counts(4) = 2");
    }

    private static void countsTwins() {
        String two = "assembly: ill 2;party a;member b of a at 0;member c of a at 999 #;twins b c; = 2";
        Rows.test(17, "a TWIN that is IN: 1 at most, of 2", two.replace("#", ""), "counts(1) = 1", "carry(0, 1) = 0", "counts(1) = 2");
        Rows.test(17, "of 1", two.replace("#", ""), "carry(1, 1) = 999", "counts(1) = 1");
        Rows.test(17, "of 0", two.replace("#", ""), "carry(1, 0) = 999", "counts(1) = 0", "counts(0) = 0");
        Rows.test(17, "of the DEAD", two.replace("#", "dead 9"), "counts(1) = 1", "carry(0, 1) = 0", "counts(1) = 2", "carry(0, 0) = 1", "year() = 1", "counts(1) = 0");
        Rows.test(17, "of the SICK", two.replace("#", "sick"), "counts(1) = 1", "carry(0, 1) = 0", "counts(1) = 2", "rule(2, 0) = 1", "carry(0, 0) = 1", "counts(1) = 0");
        Rows.test(17, "of the HIDDEN", two.replace("#", "hidden"), "counts(1) = 0");
        Rows.test(17, "the TWIN is not IN: SICK, DEAD; but IN if HIDDEN", two.replace("#", ""), "fall(0, true) = 1", "counts(1) = 2", "fall(0, false) = 1", "hide(0, true) = 1", "counts(1) = 1",
            "die(0) = 1", "counts(1) = 2");
        Rows.test(17, "TWINS of two PARTIES", "assembly: party a;party p;member b of a at 0;member c of p at 50;twins c b; = 2", "counts(1) = 1", "power(1) = 1");
    }

    private static void powers() {
        Rows.test(18, "no such PARTY", Rows.HOUSE, "power(0) = 1", "power(2) = 1", "power(-1) ! 2", "power(3) ! 2", "power(MIN) ! 2", "power(MAX) ! 2");
        Rows.test(18, "the fourth of four, without MEMBERS", Rows.FULL, "power(3) = 0", "power(4) ! 2");
        Rows.test(18, "the most, the least", "assembly: party a;" + Rows.many("member # of a at 999;", 'b', 10) + " = 10", "power(0) = 20", "rule(0, 999) = 1", "power(0) = 20", "carry(0, 0) = 999",
            "power(0) = 18");
        Rows.test(19, "sets of PARTIES", Rows.HOUSE, "powerOf(0) = 0", "powerOf(1) = 1", "powerOf(4) = 1", "powerOf(7) = 5", "powerOf(8) ! 5", "powerOf(-1) ! 5", "powerOf(9) ! 5", "powerOf(MIN) ! 5",
            "powerOf(MAX) ! 5");
        Rows.test(19, "of four", Rows.FULL, "carry(0, 999) = 0", "powerOf(15) = 2", "powerOf(14) = 0", "powerOf(16) ! 5");
        Rows.test(19, "of none", "powerOf(0) = 0", "powerOf(1) ! 5", "powerOf(-1) ! 5");
    }

    private static void governed() {
        String four = "assembly: " + Rows.many("party #;", 'a', 4) + "member e of a at 0;member f of b at 0;member g of c at 0;member h of d at 0; = 4";
        Rows.test(20, "above 0", four, "governs() ! 8", "carry(3, 1) = 0", "governs() = 3", "carry(3, 0) = 1", "carry(0, 1) = 0", "governs() = 0");
        Rows.test(20, "just one: two, three, four alike", four, "carry(0, 1) = 0", "governs() = 0", "carry(1, 1) = 0", "governs() ! 8", "carry(2, 1) = 0", "governs() ! 8", "carry(3, 1) = 0",
            "governs() ! 8", "carry(1, 50) = 1", "governs() = 1");
        Rows.test(20, "the greatest behind two that are alike", four, "carry(0, 1) = 0", "carry(1, 1) = 0", "carry(2, 50) = 0", "governs() = 2", "carry(3, 50) = 0", "governs() ! 8");
        Rows.test(20, "the greatest ahead of two that are alike", four, "carry(0, 50) = 0", "carry(1, 1) = 0", "carry(2, 1) = 0", "governs() = 0");
        Rows.test(20, "without PARTIES, without MEMBERS", "governs() ! 8", "assembly: party a; = 0", "governs() ! 8");
        Rows.test(20, "one PARTY alone", "assembly: party a;member b of a at 1; = 1", "governs() = 0", "hide(0, true) = 1", "governs() ! 8");
    }

    private static void bells() {
        Rows.test(21, "no such PARTY", Rows.HOUSE, "bells(0) = 0", "bells(2) = 0", "bells(-1) ! 2", "bells(3) ! 2", "bells(MIN) ! 2", "bells(MAX) ! 2");
        Rows.test(21, "the fourth of four", "assembly: " + Rows.many("party #;", 'a', 4) + "member e of d at 1; = 1", "minute(10) = 3", "bells(3) = 1", "bells(4) ! 2", "bells(0) = 0", "many(15) = 0");
        Rows.test(21, "a BELL at each multiple, none between", Rows.HOUSE, "minute(3) = 1", "bells(1) = 0", "minute(1) = 1", "bells(1) = 1", "minute(3) = 1", "bells(1) = 1", "minute(1) = 1", "bells(1) = 2");
        Rows.test(21, "BELL 1: each MINUTE; BELL 60: each sixtieth", Rows.HOUSE, "rule(3, 1) = 1", "minute(1) = 1", "bells(1) = 1", "minute(59) = 1", "bells(1) = 60", "rule(3, 60) = 1", "minute(59) = 1",
            "bells(1) = 60", "minute(1) = 1", "bells(1) = 61");
        Rows.test(21, "the BELL within the MINUTES that go by, not at their end", "assembly: bell 4;party a;party b;member c of a at 70 speed 10;member d of b at 1; = 2", "walk(0, 1) = 1", "minute(2) = 0",
            "minute(6) = 1", "bells(0) = 0", "bells(1) = 1", "many(15) = 1");
        Rows.test(21, "the BELL rings behind the walk of that MINUTE", "assembly: bell 2;party a;party b;member c of a at 5 speed 5;member d of b at 1 speed 9; = 2", "walk(1, 1) = 1", "minute(2) = 0",
            "bells(0) = 1", "bells(1) = 0", "carry(1, 9) = 0", "walk(1, 1) = 1", "rule(3, 3) = 1", "carry(0, 0) = 5", "minute(1) = -1", "bells(1) = 0", "many(15) = 1");
    }

    private static void margins() {
        Rows.test(22, "no such MOTION", Rows.HOUSE, "margin(0) = -2", "margin(1) = 3", "margin(-1) ! 2", "margin(2) ! 2", "margin(MIN) ! 2", "margin(MAX) ! 2");
        Rows.test(22, "STATUS tells NONE from -1", "assembly: party a;member b of a at 1;motion m for against a; = 1", "margin(0) = -1", "margin(1) ! 2");
        Rows.test(22, "the most, the least, nothing", "assembly: party a;" + Rows.many("member # of a at 999;", 'b', 10) + "motion m for a against;motion n for against a;motion o for against; = 10",
            "margin(0) = 20", "margin(1) = -20", "margin(2) = 0");
        Rows.test(22, "the fifth of five", Rows.FULL, "margin(4) = 0", "margin(5) ! 2");
    }

    private static void copies() {
        Rows.test(23, "no such TRAY", Rows.HOUSE, "copyCounts(-1) ! 1", "copyCounts(4) ! 1", "copyCounts(MIN) ! 1", "copyCounts(MAX) ! 1", "tray(0, 0, 6) = 1", "tray(3, 0, 6) = 1", "copyCounts(0) = 6",
            "copyCounts(3) = 6", "copyCounts(1) ! 3");
        Rows.test(23, "one number too few", Rows.HOUSE, "tray(0, 0, 5) = 1", "copyCounts(0) ! 4", "read(0, 3) = 0", "tray(0, 0, 0) = 1", "copyCounts(0) ! 4");
        Rows.test(23, "just as many, and one more, which stays", Rows.HOUSE, "tray(0, 0, 7) = 1", "write(0, 6, 77) = 1", "write(0, 0, 77) = 1", "copyCounts(0) = 6", "read(0, 0) = 0", "read(0, 3) = 2",
            "read(0, 5) = 0", "read(0, 6) = 77");
        Rows.test(23, "of nobody", "tray(0, 0, 0) = 1", "copyCounts(0) = 0", "tray(0, 0, 1) = 1", "write(0, 0, 7) = 1", "copyCounts(0) = 0", "read(0, 0) = 7", "copyCounts(1) ! 3");
        Rows.test(23, "of ten, in each sort", Rows.FULL, "carry(9, 999) = 0", "tray(0, 0, 10) = 1", "copyCounts(0) = 10", "read(0, 9) = 2", "tray(0, 1, 10) = 1", "copyCounts(0) = 10", "read(0, 9) = 2",
            "tray(0, 2, 9) = 1", "copyCounts(0) ! 4", "tray(0, 3, 60) = 1", "copyCounts(0) = 10", "read(0, 9) = 2", "read(0, 10) = 0");
    }
}
