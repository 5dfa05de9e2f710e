/** 'Terms', '==== 2.': what COUNTS, who governs, MINUTES, and what is done. */
final class CountSentences {
    private CountSentences() {
    }

    static void run() {
        Document.names("==== 2.");
        counts();
        Document.names("```text");
        powers();
        minutes();
        done();
        Document.names("```");
    }

    private static void counts() {
        Document.says("IN is a living MEMBER, not SICK, at 0 YARDS.");
        Document.test("its chair may be HIDDEN", "assembly: party a;member b of a at 0;member c of a at 1;member d of a at 0 dead 0;member e of a at 0 sick;member f of a at 0 hidden; = 5",
            "many(9) = 17", "carry(1, 0) = 1", "many(9) = 19", "fall(3, false) = 1", "many(9) = 27", "die(0) = 3", "many(9) = 26");
        Document.says("A MEMBER COUNTS: 0 if its chair is HIDDEN;");
        Document.test("far, DEAD, SICK as it may be", "assembly: ill 2;party a;member b of a at 999 hidden;member c of a at 1 dead 0 hidden;member d of a at 1 sick hidden;member e of a at 0 hidden; = 4",
            "counts(0) = 0", "counts(1) = 0", "counts(2) = 0", "counts(3) = 0");
        Document.says("else if DEAD 2 for BURIED YEARS at most, 0 for more;");
        Document.test("at the door, far, SICK as it may be", "assembly: buried 7;ill 0;party a;member b of a at 0 dead 0;member c of a at 1 dead 7 sick;member d of a at 999 dead 8;member e of a at 1 dead 8 sick; = 4",
            "counts(0) = 2", "counts(1) = 2", "counts(2) = 0", "counts(3) = 0", "rule(2, 2) = 1", "counts(3) = 0", "rule(1, 8) = 1", "counts(2) = 2", "rule(1, 0) = 1", "counts(0) = 2", "counts(1) = 0");
        Document.says("else if SICK so much as ILL tells;");
        for (int ill = 0; ill <= 2; ill++) {
            Document.test("ILL " + ill, "assembly: ill " + ill + ";party a;member b of a at 0 sick;member c of a at 1 sick;member d of a at 999 sick; = 3", "counts(0) = " + ill, "counts(1) = " + ill,
                "counts(2) = " + ill);
        }
        Document.says("else 2 at FAR YARDS or more, 1 at fewer above 0, 0 if it is IN.");
        Document.test("FAR 50", "assembly: party a;member b of a at 999;member c of a at 50;member d of a at 49;member e of a at 1;member f of a at 0; = 5", "counts(0) = 2", "counts(1) = 2", "counts(2) = 1",
            "counts(3) = 1", "counts(4) = 0", "rule(0, 1) = 1", "counts(3) = 2", "counts(4) = 0", "rule(0, 999) = 1", "counts(0) = 2", "counts(1) = 1");
        Document.says("If it has a TWIN that is IN, it COUNTS 1 at most.");
        String twins = "assembly: ill 2;party a;party z;member b of a at 0 hidden;member c of z at #;twins b c; = 2";
        Document.test("2 is 1, 1 is 1, 0 is 0", twins.replace("#", "99"), "counts(1) = 1", "carry(1, 1) = 99", "counts(1) = 1", "carry(1, 0) = 1", "counts(1) = 0");
        Document.test("SICK, DEAD, too", twins.replace("#", "9 sick"), "counts(1) = 1", twins.replace("#", "9 dead 0"), "counts(1) = 1", twins.replace("#", "9 dead 99"), "counts(1) = 0",
            twins.replace("#", "9 hidden"), "counts(1) = 0");
        Document.test("a TWIN that is not IN", twins.replace("#", "99"), "carry(0, 1) = 0", "counts(1) = 2", "carry(0, 0) = 1", "counts(1) = 1", "fall(0, true) = 1", "counts(1) = 2", "fall(0, false) = 1",
            "die(0) = 1", "counts(1) = 2");
        Document.test("who is no TWIN", "assembly: party a;member b of a at 0;member c of a at 99;member d of a at 99;twins d b; = 3", "counts(1) = 2", "counts(2) = 1", "counts(0) = 0");
    }

    private static void powers() {
        Document.says("POWER of a PARTY (or of several): what its MEMBERS COUNT, together.");
        Document.test("one, several", Rows.HOUSE, "power(0) = 1", "power(1) = 3", "power(2) = 1", "powerOf(3) = 4", "powerOf(6) = 4", "powerOf(7) = 5", "powerOf(0) = 0", "many(14) = 5");
        Document.test("five MEMBERS", "assembly: party a;party b;member c of a at 50;member d of a at 1;member e of b at 50;member f of a at 0;member g of a at 99; = 5", "power(0) = 5", "power(1) = 2");
        Document.says("GOVERNED is the ASSEMBLY by the PARTY with the greatest POWER above 0, if there is just one (else by nobody).");
        Document.test("the greatest, the first or the last", "assembly: party a;party b;party c;member d of a at 1;member e of b at 99;member f of c at 1; = 3", "governs() = 1", "carry(1, 1) = 99", "governs() ! 8",
            "carry(2, 99) = 1", "governs() = 2", "carry(0, 99) = 1", "governs() ! 8", "carry(2, 1) = 99", "governs() = 0");
        Document.test("two as great ahead of a greater one", "assembly: party a;party b;party c;member d of a at 1;member e of b at 1;member f of c at 99; = 3", "governs() = 2");
        Document.test("above 0", "assembly: party a;member b of a at 0; = 1", "governs() ! 8", "carry(0, 1) = 0", "governs() = 0");
        Document.says("A MOTION is CARRIED if the POWER of those FOR it is greater than that of those AGAINST it;");
        String motion = "assembly: party a;party b;member c of a at 1;member d of b at 1;motion m for a against b; = 2";
        Document.test("greater, not as great", motion, "many(12) = 0", "carry(0, 99) = 1", "many(12) = 1", "carry(1, 99) = 1", "many(12) = 0", "carry(0, 0) = 99", "many(12) = 0");
        Document.test("who is neither does not matter", "assembly: party a;party b;member c of a at 1;member d of b at 99;motion m for a against;motion n for against;motion o for against a; = 2", "many(12) = 1");
        Document.says("ACTED if it is, and somebody is IN.");
        Document.test("of any PARTY", motion, "carry(0, 99) = 1", "many(12) = 1", "many(13) = 0", "carry(1, 0) = 1", "many(13) = 1", "carry(0, 0) = 99", "many(13) = 0");
    }

    private static void minutes() {
        Document.says("A MINUTE goes by (to 9,999):");
        Document.test("9,999, and no 10,000th", Rows.after9600("minute(399) = -1", "many(8) = 9999", "minute(1) ! 7", "many(8) = 9999"));
        Document.says("1. each living MEMBER, not SICK, that COMES is nearer by its SPEED (0 at least; at 0 it STAYS), that GOES farther (999 at most).");
        String two = "assembly: party a;member b of a at 12 speed 5;member c of a at 990 speed 5; = 2";
        Document.test("nearer by its SPEED, 0 at least, at 0 it STAYS", two, "walk(0, 1) = 1", "minute(1) = 0", "member(0, 1) = 7", "minute(1) = 0", "member(0, 1) = 2", "member(0, 4) = 1", "minute(1) = 0",
            "member(0, 1) = 0", "member(0, 4) = 0", "member(1, 1) = 990");
        Document.test("farther, 999 at most, and GOES still", two, "walk(1, 2) = 1", "minute(1) = 0", "member(1, 1) = 995", "minute(1) = 0", "member(1, 1) = 999", "minute(9) = 0", "member(1, 1) = 999",
            "member(1, 4) = 2", "member(0, 1) = 12");
        Document.test("all go", two, "walk(0, 2) = 1", "walk(1, 1) = 1", "minute(25) = 0", "member(0, 1) = 137", "member(1, 1) = 865");
        Document.test("just at 0", two, "walk(0, 1) = 1", "carry(0, 10) = 12", "minute(2) = 0", "member(0, 1) = 0", "member(0, 4) = 0");
        Document.test("one that COMES at 0", two, "carry(0, 0) = 12", "walk(0, 1) = 1", "member(0, 4) = 1", "minute(1) = 0", "member(0, 1) = 0", "member(0, 4) = 0");
        Document.test("not SICK", two, "walk(0, 1) = 1", "walk(1, 2) = 1", "fall(0, true) = 1", "fall(1, true) = 1", "minute(2) = 0", "member(0, 1) = 12", "member(1, 1) = 990", "member(0, 4) = 1",
            "member(1, 4) = 2", "fall(0, false) = 1", "fall(1, false) = 1", "minute(1) = 0", "member(0, 1) = 7", "member(1, 1) = 995");
        Document.test("living", two, "walk(0, 1) = 1", "die(0) = 1", "minute(2) = 0", "member(0, 1) = 12");
        Document.says("2. the MINUTE is 1 more.");
        Document.test("each time", "many(8) = 0", "minute(1) = -1", "many(8) = 1", "minute(1) = -1", "many(8) = 2", "minute(600) = -1", "many(8) = 602");
        Document.says("3. if it is a multiple of BELL, the BELL rings: by whom it is GOVERNED then (nobody) has one BELL more.");
        Document.test("multiples alone", "assembly: bell 3;party a;party b;member c of b at 1; = 1", "minute(2) = 1", "bells(1) = 0", "minute(1) = 1", "bells(1) = 1", "minute(2) = 1", "bells(1) = 1", "minute(1) = 1",
            "bells(1) = 2", "minute(600) = 1", "bells(1) = 202", "bells(0) = 0", "many(15) = 0");
        Document.test("nobody", "assembly: bell 2;party a; = 0", "minute(5) = -1", "many(15) = 2", "bells(0) = 0");
        // c COUNTS 1 from MINUTE 1 on, 2 from MINUTE 9 on; the BELLS at 4 and 8 are for nobody, that at 12 for a.
        Document.test("between two multiples", "assembly: far 9;bell 4;party a;party b;member c of a at 0 speed 1;member d of b at 1; = 2", "walk(0, 2) = 1", "minute(3) = -1", "minute(10) = 0", "many(15) = 2", "bells(0) = 1",
            "bells(1) = 0", "minute(2) = 0", "bells(0) = 1", "minute(1) = 0", "bells(0) = 2");
        Document.test("behind who came and went in that MINUTE", "assembly: far 10;bell 1;party a;party b;member c of a at 0 speed 10;member d of b at 5; = 2", "walk(0, 2) = 1", "governs() = 1", "minute(1) = 0",
            "bells(0) = 1", "bells(1) = 0");
        Document.test("each BELL by who governs then", "assembly: far 10;bell 1;party a;party b;member c of a at 1 speed 1;member d of b at 5; = 2", "walk(0, 2) = 1", "minute(10) = 0", "many(15) = 8", "bells(0) = 2",
            "bells(1) = 0");
    }

    private static void done() {
        Document.says("COME, GO, STAY of a living MEMBER.");
        Document.test("walk()", Rows.HOUSE, "walk(1, 1) = 1", "member(1, 4) = 1", "walk(1, 2) = 1", "member(1, 4) = 2", "walk(1, 0) = 1", "member(1, 4) = 0", "walk(4, 1) = 1", "member(4, 4) = 1", "walk(3, 1) ! 9",
            "member(3, 4) = 0");
        Document.says("DIE: it is DEAD for 0 YEARS, and STAYS.");
        Document.test("die()", Rows.HOUSE, "walk(1, 2) = 1", "member(1, 5) ! 8", "die(1) = 4", "member(1, 5) = 0", "member(1, 4) = 0", "member(1, 1) = 40");
        Document.says("FALL ill, or get up: SICK, or not.");
        Document.test("fall()", Rows.HOUSE, "walk(1, 2) = 1", "fall(1, true) = 1", "member(1, 6) = 1", "member(1, 4) = 2", "many(11) = 18", "fall(1, false) = 1", "member(1, 6) = 0", "many(11) = 16");
        Document.says("HIDE a chair, or find it.");
        Document.test("hide()", Rows.HOUSE, "hide(1, true) = 1", "member(1, 7) = 1", "counts(1) = 0", "hide(1, false) = 1", "member(1, 7) = 0", "counts(1) = 1");
        Document.says("A YEAR: all DEAD are so for a YEAR more (99 at most).");
        Document.test("year()", "assembly: party a;member b of a at 0 dead 0;member c of a at 0 dead 98;member d of a at 0 dead 99;member e of a at 0; = 4", "year() = 0", "member(0, 5) = 1", "member(1, 5) = 99",
            "member(2, 5) = 99", "member(3, 5) ! 8", "year() = 0", "member(0, 5) = 2", "member(1, 5) = 99", "member(2, 5) = 99");
    }
}
