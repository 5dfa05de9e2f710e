/** Promises 1 to 39. */
final class PromiseSentences {
    private static final String BLANKS = "feed(538976288, 538976288, 538976288, 538976288, 538976288)";
    /** c GOES from the door, a YARD a MINUTE, FAR being 9; d of b STAYS at 1. */
    private static final String SOON = "assembly: far 9;party a;party b;member c of a at 0 speed 1;member d of b at 1;motion m for a against b;motion n for b against a;motion o for against; = 2";
    private static final String GO = "walk(0, 2) = 1";

    private PromiseSentences() {
    }

    static void run() {
        made();
        trays();
        pour();
        tape();
        fault();
        many();
        things();
        counts();
        minute();
        changes();
        laws();
        willBe();
        firsts();
    }

    private static void promise(int number, String title, String call) {
        Document.names("## Promise " + number + ": " + title + " `" + call + "`:");
    }

    private static void made() {
        promise(1, "A new object", "EmptyChairs()");
        Document.says("TRAYS are MISSING,");
        Document.test("all four", "read(0, 0) ! 3", "read(1, 0) ! 3", "read(2, 0) ! 3", "read(3, 0) ! 3");
        Document.says("an ASSEMBLY of nobody (FAR 50, BURIED 9, ILL 1, BELL 10),");
        Document.test("nobody, nothing", "many(0) = 0", "many(1) = 0", "many(2) = 0", "many(3) = 0", "many(4) = 50", "many(5) = 9", "many(6) = 1", "many(7) = 10", "many(8) = 0", "many(9) = 0", "many(10) = 0", "many(11) = 0",
            "many(12) = 0", "many(13) = 0", "many(14) = 0", "many(15) = 0");
        Document.says("no SESSIONS, MARKS, an empty tape;");
        Document.test("none", "live(0) ! 8", "back() ! 8", "assembly(1) ! 5", "feed(0, 0, 0, 0, 0) -> 20");
        Document.says("STATUS 0, the FRACTION 0 by 1.");
        Document.test("at first", "status() -> 0", "top() -> 0", "bottom() -> 1");
        promise(2, "status", "int status()");
        Document.says("The STATUS of the latest call that has one.");
        Document.test("the latest", "mark() = 1", "status() -> 0", "governs() ! 8", "status() -> 8", "top() -> 0", "fault(0) -> -1", BLANKS + " -> 20", "status() -> 8", "counts(0) ! 2", "status() -> 2", "lean() = 0", "status() -> 0");
        promise(3, "top", "long top()");
        Document.says("The top of the FRACTION told latest.");
        Document.test("seek(), share(), mean()", Rows.HOUSE, "top() -> 0", "seek() = 1", "top() -> 45", "share(0) = 1", "top() -> 0", "share(7) ! 2", "top() -> 0", "sessions: any; = 1", "mean(0, 1) = 1", "top() -> 5");
        promise(4, "bottom", "long bottom()");
        Document.says("Its bottom, above 0.");
        Document.test("seek(), share(), mean()", Rows.HOUSE, "bottom() -> 1", "seek() = 1", "bottom() -> 2", "assembly(0) = 0", "seek() ! 8", "bottom() -> 2", Rows.HOUSE, "share(0) = 1", "bottom() -> 1");
    }

    private static void trays() {
        promise(5, "tray", "boolean tray(int tray, int sort, int many)");
        Document.says("A TRAY is a row of so many numbers (at most 60; 5), all 0 (1; 5; 6).");
        Document.test("0 to 60", "tray(0, 0, 0) = 1", "read(0, 0) ! 4", "tray(0, 0, 60) = 1", "read(0, 59) = 0", "read(0, 60) ! 4", "tray(0, 0, 61) ! 5", "read(0, 59) = 0", "tray(0, 0, -1) ! 6");
        Document.test("all 0, in place of the one ahead", "tray(2, 3, 3) = 1", "write(2, 0, 5) = 1", "write(2, 2, 6) = 1", "tray(2, 0, 2) = 1", "read(2, 0) = 0", "read(2, 2) ! 4", "tray(2, 3, 3) = 1", "read(2, 2) = 0", "read(1, 0) ! 3");
        Document.test("1, 5, 6", "tray(4, 0, 1) ! 1", "tray(0, 4, 1) ! 1", "tray(0, 0, MAX) ! 5", "tray(0, 0, MIN) ! 6");
        promise(6, "write", "boolean write(int tray, int place, long v)");
        Document.says("A number comes to a place of a TRAY (1; 3; 4).");
        Document.test("to that place alone", "tray(1, 3, 3) = 1", "tray(2, 3, 3) = 1", "write(1, 1, 77) = 1", "read(1, 0) = 0", "read(1, 1) = 77", "read(1, 2) = 0", "read(2, 1) = 0", "write(1, 1, -5) = 1", "read(1, 1) = -5");
        Document.test("1, 3, 4", "tray(1, 3, 3) = 1", "write(4, 0, 1) ! 1", "write(0, 0, 1) ! 3", "write(1, 3, 1) ! 4", "write(1, -1, 1) ! 4");
        promise(7, "read", "long read(int tray, int place)");
        Document.says("The number in a place of a TRAY; STATUS tells NONE from -1 (1; 3; 4).");
        Document.test("-1", "tray(1, 3, 1) = 1", "write(1, 0, -1) = 1", "read(1, 0) = -1", "read(1, 1) ! 4", "read(0, 0) ! 3", "read(4, 0) ! 1");
    }

    private static void pour() {
        promise(8, "pour", "boolean pour(int tray, int i, int to, int j, int many)");
        Document.says("So many numbers from place i on of a TRAY come to place j on of another one, or the same, as they were:");
        String[] row = {"tray(0, 2, 5) = 1", "write(0, 0, 10) = 1", "write(0, 1, 11) = 1", "write(0, 2, 12) = 1", "write(0, 3, 13) = 1", "write(0, 4, 14) = 1", "tray(1, 2, 4) = 1", "write(1, 0, 5) = 1", "write(1, 3, 6) = 1"};
        Document.test("another one", Rows.join(row, "pour(0, 2, 1, 1, 2) = 1", "read(1, 0) = 5", "read(1, 1) = 12", "read(1, 2) = 13", "read(1, 3) = 6", "read(0, 2) = 12", "read(0, 3) = 13"));
        Document.test("the same, forwards, as they were", Rows.join(row, "pour(0, 0, 0, 1, 4) = 1", "read(0, 0) = 10", "read(0, 1) = 10", "read(0, 2) = 11", "read(0, 3) = 12", "read(0, 4) = 13"));
        Document.test("the same, backwards, as they were", Rows.join(row, "pour(0, 1, 0, 0, 4) = 1", "read(0, 0) = 11", "read(0, 1) = 12", "read(0, 2) = 13", "read(0, 3) = 14", "read(0, 4) = 14"));
        Document.test("none", Rows.join(row, "pour(0, 0, 1, 0, 0) = 1", "read(1, 0) = 5"));
        Document.says("1, 3 (either), 11, 6, 4, asked in this order.");
        Document.test("1 ahead of all", "pour(4, -1, 0, -1, -1) ! 1", "pour(0, -1, 4, -1, -1) ! 1", "pour(-1, 0, 0, 0, 0) ! 1");
        Document.test("3, of either, ahead of 11, 6, 4", "tray(0, 0, 1) = 1", "pour(0, 9, 1, 9, -1) ! 3", "pour(1, 9, 0, 9, -1) ! 3", "pour(1, 0, 1, 0, 0) ! 3");
        Document.test("11 ahead of 6, 4", "tray(0, 0, 1) = 1", "tray(1, 1, 1) = 1", "pour(0, 9, 1, 9, -1) ! 11", "pour(0, 9, 1, 9, 1) ! 11", "pour(0, 0, 1, 0, -1) ! 11");
        Document.test("6 ahead of 4", "tray(0, 0, 1) = 1", "pour(0, 9, 0, 9, -1) ! 6", "pour(0, -1, 0, 0, MIN) ! 6");
        Document.test("4", "tray(0, 0, 3) = 1", "tray(1, 0, 2) = 1", "pour(0, 0, 1, 0, 3) ! 4", "pour(0, 2, 1, 0, 2) ! 4", "pour(0, 0, 1, 1, 2) ! 4", "pour(0, -1, 1, 0, 1) ! 4", "pour(0, 0, 1, -1, 1) ! 4", "pour(0, 0, 0, 0, MAX) ! 4",
            "pour(0, 4, 0, 0, 0) ! 4", "pour(0, 1, 1, 0, 2) = 1");
    }

    private static void tape() {
        promise(9, "feed", "int feed(int a, int b, int c, int d, int e)");
        Document.says("Twenty bytes come behind those on the tape, the highest of each int first: how many it has; NONE if there would be more than 900.");
        // par|ty a, ;par|ty b ..: each int is four signs.
        Document.test("the highest first, one int behind the other", "feed(1885434484, 2032165179, 1885434484, 2032165435, 1885434484) -> 20", "feed(2032165691, 538976288, 538976288, 538976288, 538976288) -> 40", "assembly(40) = 0",
            "many(0) = 3");
        Document.test("up to 900", "tape: " + " ".repeat(880), BLANKS + " -> 900", BLANKS + " -> -1", "assembly(900) = 0", BLANKS + " -> 20");
        promise(10, "assembly", "int assembly(int n)");
        Document.says("The first n bytes of the tape (which is empty then, but for 5) are the ASSEMBLY: how many MEMBERS (5; 10: the old one stays).");
        Document.test("the first n bytes", "tape: party a;party b;", "assembly(8) = 0", "many(0) = 1", BLANKS + " -> 20");
        Document.test("n within a WORD, a NUMBER", "tape: party abc;", "assembly(8) ! 10", "fault(0) -> 2", "fault(1) -> 8", "tape: far 99999;", "assembly(7) ! 10", "fault(0) -> 2", "fault(1) -> 7");
        Document.test("how many MEMBERS", "assembly: party a;member b of a at 0; = 1", Rows.HOUSE, Rows.FULL, "assembly(0) = 0");
        Document.test("5: the tape stays", "tape: party a;", "assembly(21) ! 5", "assembly(-1) ! 5", BLANKS + " -> 40", "assembly(40) = 0", "many(0) = 1");
        Document.test("10: the old one stays, the tape is empty", Rows.HOUSE, "tape: party", "assembly(5) ! 10", "many(1) = 6", BLANKS + " -> 20");
        promise(11, "sessions", "int sessions(int n)");
        Document.says("Likewise the SESSIONS: how many STEPS (5: above 300, too; 10).");
        Document.test("the first n bytes, the tape is empty then", "tape: any;any;any;", "sessions(8) = 2", BLANKS + " -> 20", "live(0) = 2");
        Document.test("5: the tape stays", "tape: any;" + " ".repeat(316), "sessions(301) ! 5", "sessions(-1) ! 5", "sessions(321) ! 5", "sessions(300) = 1");
        Document.test("10: the old ones stay, the tape is empty", "sessions: any;any; = 2", "tape: any", "sessions(3) ! 10", BLANKS + " -> 20", "live(0) = 2");
    }

    private static void fault() {
        promise(12, "fault", "int fault(int what)");
        Document.says("Of the latest of these with STATUS 0 or 10, what 0: the FAULT (0 without one), 1: its place (NONE without).");
        Document.test("with, without", "assembly: far 1;far 1; ! 5 @ 6", "fault(0) -> 5", "fault(1) -> 6", "assembly(0) = 0", "fault(0) -> 0", "fault(1) -> -1", "sessions: minute 0; ! 4 @ 7", "fault(0) -> 4", "fault(1) -> 7", "sessions(0) = 0",
            "fault(0) -> 0", "fault(1) -> -1");
        Document.test("those with 5 do not matter", "assembly: far 1;far 1; ! 5 @ 6", "assembly(1) ! 5", "sessions(1) ! 5", "fault(0) -> 5", "fault(1) -> 6");
        Document.says("NONE for others, and ahead of any.");
        Document.test("ahead of any", "fault(0) -> -1", "fault(1) -> -1", "assembly(1) ! 5", "fault(0) -> -1", "fault(1) -> -1");
        Document.test("for others", "assembly: far 1;far 1; ! 5 @ 6", "fault(2) -> -1", "fault(-1) -> -1", "fault(MAX) -> -1", "fault(MIN) -> -1");
    }

    private static void many() {
        promise(13, "many", "int many(int what)");
        Document.says("PARTIES (what 0), MEMBERS (1), MOTIONS (2), ROOMS (3);");
        Document.test("how many", Rows.HOUSE, "many(0) = 3", "many(1) = 6", "many(2) = 2", "many(3) = 3", Rows.FULL, "many(0) = 4", "many(1) = 10", "many(2) = 5", "many(3) = 6");
        Document.says("FAR (4), BURIED (5), ILL (6), BELL (7), the MINUTE (8);");
        Document.test("as told, as ruled", Rows.HOUSE, "many(4) = 30", "many(5) = 5", "many(6) = 1", "many(7) = 4", "many(8) = 0", "rule(0, 31) = 1", "rule(1, 32) = 1", "rule(2, 2) = 1", "rule(3, 34) = 1", "minute(9) = 1", "many(4) = 31",
            "many(5) = 32", "many(6) = 2", "many(7) = 34", "many(8) = 9");
        Document.says("the sets of MEMBERS (1 for MEMBER 0 ..) that are IN (9), DEAD (10), SICK (11);");
        Document.test("one, several, all", Rows.HOUSE, "many(9) = 1", "many(10) = 8", "many(11) = 16", "carry(5, 0) = 10", "die(1) = 4", "fall(2, true) = 1", "many(9) = 33", "many(10) = 10", "many(11) = 20", Rows.FULL, "many(9) = 1023",
            "many(10) = 0", "many(11) = 0");
        Document.test("one may be DEAD and SICK", "assembly: party a;member b of a at 0 dead 1 sick;member c of a at 0 sick; = 2", "many(9) = 0", "many(10) = 1", "many(11) = 3", "die(1) = 0", "many(10) = 3", "many(11) = 3");
        Document.says("of MOTIONS that are CARRIED (12), ACTED (13);");
        Document.test("1 for MOTION 0 ..", Rows.HOUSE, "many(12) = 2", "many(13) = 2", "carry(0, 5) = 0", "many(12) = 2", "many(13) = 0", "carry(0, 30) = 5", "many(12) = 1", "many(13) = 0", "carry(2, 0) = 20", "many(12) = 1", "many(13) = 1",
            "assembly: party a;member b of a at 1;member c of a at 0;" + Rows.many("motion # for a against;", 'm', 5) + " = 2", "many(12) = 31", "many(13) = 31");
        Document.says("all POWER (14);");
        Document.test("of all PARTIES", Rows.HOUSE, "many(14) = 5", "carry(0, 99) = 0", "many(14) = 8", Rows.FULL, "many(14) = 0");
        Document.says("BELLS that rang for nobody (15) (5).");
        Document.test("nobody", Rows.HOUSE, "minute(4) = 1", "many(15) = 0", "join(3, 2) = 1", "minute(4) = 2", "join(3, 0) = 2", "minute(4) = 0", "hide(3, true) = 1", "minute(4) = -1", "many(15) = 1", "minute(8) = -1", "many(15) = 3");
        Document.test("5", "many(16) ! 5", "many(-1) ! 5", "many(MAX) ! 5", "many(MIN) ! 5");
    }

    private static void things() {
        promise(14, "member", "int member(int member, int what)");
        Document.says("Of a MEMBER, what 0: its PARTY, 1: YARDS, 2: SPEED, 3: PRICE,");
        Document.test("as told, as done", Rows.HOUSE, "member(1, 0) = 0", "member(1, 1) = 40", "member(1, 2) = 10", "member(1, 3) = 3", "member(5, 0) = 2", "member(5, 1) = 10", "member(5, 2) = 2", "member(5, 3) = 10", "join(1, 2) = 0",
            "carry(1, 41) = 40", "member(1, 0) = 2", "member(1, 1) = 41");
        Document.says("4: 0 STAYS, 1 COMES, 2 GOES,");
        Document.test("each", Rows.HOUSE, "member(1, 4) = 0", "walk(1, 1) = 1", "member(1, 4) = 1", "walk(1, 2) = 1", "member(1, 4) = 2", "member(0, 4) = 0");
        Document.says("5: how many YEARS it is DEAD (8: it lives),");
        Document.test("DEAD, alive", Rows.HOUSE, "member(3, 5) = 5", "member(1, 5) ! 8", "die(1) = 4", "member(1, 5) = 0", "year() = 1", "member(1, 5) = 1", "member(3, 5) = 6");
        Document.says("6: 1 if it is SICK, else 0, 7: 1 if its chair is HIDDEN, else 0,");
        Document.test("each", Rows.HOUSE, "member(4, 6) = 1", "member(5, 6) = 0", "member(4, 7) = 0", "member(5, 7) = 1", "fall(4, false) = 1", "hide(5, false) = 1", "member(4, 6) = 0", "member(5, 7) = 0");
        Document.says("8: its TWIN (8: none) (2; 5).");
        Document.test("either, none", Rows.HOUSE, "member(0, 8) = 1", "member(1, 8) = 0", "member(2, 8) ! 8", "member(6, 8) ! 2", "member(-1, 0) ! 2", "member(0, 9) ! 5", "member(0, -1) ! 5");
        promise(15, "motion", "int motion(int motion, int side)");
        Document.says("The set of PARTIES that are FOR a MOTION (side 0), AGAINST it (1) (2; 5).");
        Document.test("1 for PARTY 0 ..", Rows.HOUSE, "motion(0, 0) = 1", "motion(0, 1) = 2", "motion(1, 0) = 6", "motion(1, 1) = 1", "motion(2, 0) ! 2", "motion(-1, 0) ! 2", "motion(0, 2) ! 5", "motion(0, -1) ! 5");
        promise(16, "room", "int room(int room, int what)");
        Document.says("What looking at a ROOM TAKES (what 0), its ODDS (1) (2; 5).");
        Document.test("each", Rows.HOUSE, "room(0, 0) = 10", "room(0, 1) = 4", "room(2, 0) = 5", "room(2, 1) = 0", "room(3, 0) ! 2", "room(-1, 0) ! 2", "room(0, 2) ! 5", "room(0, -1) ! 5");
    }

    private static void counts() {
        promise(17, "counts", "int counts(int member)");
        Document.says("What a MEMBER COUNTS (2).");
        Document.test("each", Rows.HOUSE, "counts(0) = 0", "counts(1) = 1", "counts(2) = 1", "counts(3) = 2", "counts(4) = 1", "counts(5) = 0", "counts(6) ! 2", "counts(-1) ! 2");
        promise(18, "power", "int power(int party)");
        Document.says("POWER of a PARTY (2).");
        Document.test("each", Rows.HOUSE, "power(0) = 1", "power(1) = 3", "power(2) = 1", "power(3) ! 2", "power(-1) ! 2");
        promise(19, "powerOf", "int powerOf(int parties)");
        Document.says("POWER of a set of PARTIES (1 for PARTY 0 ..) together (5).");
        Document.test("each", Rows.HOUSE, "powerOf(0) = 0", "powerOf(1) = 1", "powerOf(2) = 3", "powerOf(3) = 4", "powerOf(4) = 1", "powerOf(5) = 2", "powerOf(6) = 4", "powerOf(7) = 5", "powerOf(8) ! 5", "powerOf(-1) ! 5");
        promise(20, "governs", "int governs()");
        Document.says("By whom it is GOVERNED (8: nobody).");
        Document.test("blue, nobody, red", Rows.HOUSE, "governs() = 1", "carry(0, 1) = 0", "governs() ! 8", "carry(0, 30) = 1", "governs() = 0");
        promise(21, "bells", "int bells(int party)");
        Document.says("How many BELLS rang while it was GOVERNED by a PARTY (2).");
        Document.test("blue, red", Rows.HOUSE, "minute(9) = 1", "bells(1) = 2", "bells(0) = 0", "carry(0, 30) = 0", "minute(3) = 0", "bells(0) = 1", "bells(1) = 2", "bells(2) = 0", "bells(3) ! 2", "bells(-1) ! 2");
        promise(22, "margin", "int margin(int motion)");
        Document.says("POWER FOR a MOTION less that AGAINST it; STATUS tells NONE from -1 (2).");
        Document.test("bread, war", Rows.HOUSE, "margin(0) = -2", "margin(1) = 3", "carry(0, 1) = 0", "margin(0) = 0", "margin(1) = 1", "hide(0, true) = 1", "margin(0) = -1", "margin(2) ! 2", "margin(-1) ! 2");
        promise(23, "copyCounts", "int copyCounts(int tray)");
        Document.says("All that MEMBERS COUNT comes to a TRAY, MEMBER by MEMBER: how many (1; 3; 4).");
        Document.test("in place of what was there", Rows.HOUSE, "tray(2, 0, 7) = 1", "write(2, 0, 9) = 1", "write(2, 6, 9) = 1", "copyCounts(2) = 6", "read(2, 0) = 0", "read(2, 1) = 1", "read(2, 2) = 1", "read(2, 3) = 2", "read(2, 4) = 1",
            "read(2, 5) = 0", "read(2, 6) = 9");
        Document.test("1, 3, 4", Rows.HOUSE, "copyCounts(4) ! 1", "copyCounts(0) ! 3", "tray(0, 0, 5) = 1", "copyCounts(0) ! 4", "tray(0, 0, 6) = 1", "copyCounts(0) = 6");
        Document.test("nobody", "tray(0, 0, 0) = 1", "copyCounts(0) = 0");
    }

    private static void minute() {
        promise(24, "minute", "int minute(int minutes)");
        Document.says("So many MINUTES (1 to 600): by whom it is GOVERNED then, or NONE with STATUS 0 (5; 7: above 9,999).");
        Document.test("so many", SOON, GO, "minute(8) = -1", "member(0, 1) = 8", "many(8) = 8", "minute(1) = 0", "member(0, 1) = 9", "minute(600) = 0", "member(0, 1) = 609", "many(8) = 609", "many(15) = 0", "bells(0) = 60");
        Document.test("many at once are as many one by one", SOON, GO, "rule(3, 1) = 1", "minute(20) = 0", "bells(0) = 12", "bells(1) = 0", "many(15) = 8");
        Document.test("5", "minute(0) ! 5", "minute(601) ! 5", "minute(-1) ! 5", "minute(MAX) ! 5", "minute(MIN) ! 5");
        Document.test("7: none of them go by", Rows.after9600("minute(400) ! 7", "many(8) = 9600", "minute(399) = -1", "minute(1) ! 7"));
    }

    private static void changes() {
        promise(25, "walk", "boolean walk(int member, int way)");
        Document.says("A MEMBER STAYS (way 0), COMES (1), GOES (2) (2; 5; 9: DEAD).");
        Document.test("each", Rows.HOUSE, "walk(1, 1) = 1", "minute(1) = 1", "member(1, 1) = 30", "walk(1, 2) = 1", "minute(2) = 1", "member(1, 1) = 50", "walk(1, 0) = 1", "minute(1) = 1", "member(1, 1) = 50");
        Document.test("2, 5, 9; the SICK may be told", Rows.HOUSE, "walk(6, 0) ! 2", "walk(-1, 0) ! 2", "walk(0, 3) ! 5", "walk(0, -1) ! 5", "walk(3, 0) ! 9", "walk(4, 2) = 1", "member(4, 4) = 2");
        promise(26, "die", "int die(int member)");
        Document.says("DIE: how many live then (2; 9: DEAD).");
        Document.test("one by one", Rows.HOUSE, "die(0) = 4", "die(1) = 3", "die(2) = 2", "die(4) = 1", "die(5) = 0", "die(5) ! 9", "die(3) ! 9", "die(6) ! 2", "die(-1) ! 2", "many(10) = 63");
        promise(27, "fall", "boolean fall(int member, boolean sick)");
        Document.says("FALL ill, or get up (2; 9: DEAD, or it is so).");
        Document.test("each", Rows.HOUSE, "fall(0, true) = 1", "many(11) = 17", "fall(4, false) = 1", "many(11) = 1", "fall(0, true) ! 9", "fall(4, false) ! 9", "fall(3, true) ! 9", "fall(3, false) ! 9", "fall(6, true) ! 2", "fall(-1, false) ! 2");
        promise(28, "hide", "boolean hide(int member, boolean is)");
        Document.says("HIDE a chair, or find it (2; 9: it is so).");
        Document.test("each; of the DEAD, too", Rows.HOUSE, "hide(3, true) = 1", "member(3, 7) = 1", "counts(3) = 0", "hide(5, false) = 1", "member(5, 7) = 0", "hide(3, true) ! 9", "hide(5, false) ! 9", "hide(6, true) ! 2", "hide(-1, true) ! 2");
        promise(29, "carry", "int carry(int member, int yards)");
        Document.says("A MEMBER is carried to so many YARDS (0 to 999): how far it was (2; 5; 9: DEAD).");
        Document.test("0, 999; the SICK, too", Rows.HOUSE, "carry(1, 999) = 40", "member(1, 1) = 999", "carry(1, 0) = 999", "member(1, 1) = 0", "carry(4, 7) = 0", "carry(1, 1000) ! 5", "carry(1, -1) ! 5", "carry(3, 5) ! 9", "carry(6, 5) ! 2",
            "carry(-1, 5) ! 2");
        Document.test("its way stays", Rows.HOUSE, "walk(1, 1) = 1", "carry(1, 0) = 40", "member(1, 4) = 1", "carry(1, 15) = 0", "minute(1) = 1", "member(1, 1) = 5");
        promise(30, "year", "int year()");
        Document.says("A YEAR: how many of the DEAD COUNT for it no more (and did).");
        Document.test("those just BURIED", "assembly: buried 2;party a;member b of a at 0 dead 1;member c of a at 0 dead 2;member d of a at 0 dead 2;member e of a at 0 dead 3;member f of a at 0; = 5", "year() = 2", "counts(0) = 2", "counts(1) = 0",
            "year() = 1", "year() = 0", "power(0) = 0");
        Document.test("and did: a HIDDEN one did not, one held to 1 did", "assembly: buried 2;party a;member b of a at 0 dead 2 hidden;member c of a at 0 dead 2;member d of a at 0;twins c d; = 3", "counts(1) = 1", "year() = 1", "counts(1) = 0");
        Document.test("none is DEAD; 99 YEARS", "assembly: buried 99;party a;member b of a at 0 dead 99;member c of a at 0; = 2", "year() = 0", "counts(0) = 2", "assembly(0) = 0", "year() = 0");
    }

    private static void laws() {
        promise(31, "rule", "boolean rule(int what, int much)");
        Document.says("FAR (what 0: 1 to 999), BURIED (1: 0 to 99), ILL (2: 0 to 2), BELL (3: 1 to 60) from now on (5).");
        int[][] bounds = {{1, 999}, {0, 99}, {0, 2}, {1, 60}};
        for (int what = 0; what < 4; what++) {
            int least = bounds[what][0];
            int most = bounds[what][1];
            String rule = "rule(" + what + ", ";
            String many = "many(" + (4 + what) + ") = ";
            Document.test("what " + what, rule + least + ") = 1", many + least, rule + most + ") = 1", many + most, rule + (least - 1) + ") ! 5", rule + (most + 1) + ") ! 5", rule + "MAX) ! 5", rule + "MIN) ! 5", many + most);
        }
        Document.test("from now on", Rows.HOUSE, "rule(0, 20) = 1", "counts(2) = 2", "rule(1, 4) = 1", "counts(3) = 0", "rule(2, 2) = 1", "counts(4) = 2", "rule(3, 3) = 1", "minute(9) = -1", "many(15) = 3");
        Document.test("5", "rule(4, 1) ! 5", "rule(-1, 1) ! 5", "rule(MAX, 1) ! 5", "rule(MIN, 1) ! 5");
        promise(32, "join", "int join(int member, int party)");
        Document.says("A MEMBER goes over to another PARTY: which it had (2; 9: it is that).");
        Document.test("which it had; the DEAD, too", Rows.HOUSE, "join(3, 0) = 1", "member(3, 0) = 0", "power(0) = 3", "power(1) = 1", "join(3, 2) = 0", "join(3, 2) ! 9", "join(6, 0) ! 2", "join(-1, 0) ! 2", "join(0, 3) ! 2", "join(0, -1) ! 2");
        promise(33, "side", "boolean side(int motion, int party, int side)");
        Document.says("A PARTY is FOR a MOTION (side 0), AGAINST it (1), neither (2) from now on (2; 5).");
        Document.test("each", Rows.HOUSE, "side(0, 2, 0) = 1", "motion(0, 0) = 5", "motion(0, 1) = 2", "margin(0) = -1", "side(0, 2, 1) = 1", "motion(0, 0) = 1", "motion(0, 1) = 6", "margin(0) = -3", "side(0, 2, 2) = 1", "motion(0, 0) = 1",
            "motion(0, 1) = 2", "margin(0) = -2", "motion(1, 0) = 6");
        Document.test("no other PARTY", Rows.HOUSE, "side(1, 2, 2) = 1", "motion(1, 0) = 2", "motion(1, 1) = 1", "side(1, 1, 1) = 1", "motion(1, 0) = 0", "motion(1, 1) = 3", "side(1, 0, 2) = 1", "motion(1, 1) = 2", "motion(0, 0) = 1");
        Document.test("2, 5", Rows.HOUSE, "side(2, 0, 0) ! 2", "side(-1, 0, 0) ! 2", "side(0, 3, 0) ! 2", "side(0, -1, 0) ! 2", "side(0, 0, 3) ! 5", "side(0, 0, -1) ! 5");
    }

    private static void willBe() {
        promise(34, "yardsIn", "int yardsIn(int member, int minutes)");
        Document.says("YARDS of a MEMBER in so many MINUTES (0 to 600) (2; 5).");
        Document.test("GOES, COMES, STAYS, SICK, DEAD", Rows.HOUSE, "walk(1, 1) = 1", "walk(2, 2) = 1", "walk(4, 2) = 1", "yardsIn(1, 0) = 40", "yardsIn(1, 3) = 10", "yardsIn(1, 4) = 0", "yardsIn(1, 600) = 0", "yardsIn(2, 1) = 25",
            "yardsIn(2, 195) = 995", "yardsIn(2, 196) = 999", "yardsIn(2, 600) = 999", "yardsIn(0, 600) = 0", "yardsIn(3, 600) = 60", "yardsIn(4, 600) = 0", "yardsIn(5, 600) = 10");
        Document.test("2, 5", Rows.HOUSE, "yardsIn(6, 0) ! 2", "yardsIn(-1, 0) ! 2", "yardsIn(0, 601) ! 5", "yardsIn(0, -1) ! 5");
        promise(35, "governsIn", "int governsIn(int minutes)");
        Document.says("By whom it is GOVERNED in so many MINUTES (0 to 600) (5; 8: nobody).");
        Document.test("b, nobody, a", SOON, GO, "governsIn(0) = 1", "governsIn(1) ! 8", "governsIn(8) ! 8", "governsIn(9) = 0", "governsIn(600) = 0", "governsIn(601) ! 5", "governsIn(-1) ! 5");
    }

    private static void firsts() {
        promise(36, "firstIn", "int firstIn(int party)");
        Document.says("In how many MINUTES (0 to 600) it is GOVERNED by a PARTY first (2; 8: not in these).");
        Document.test("9, 0, never", SOON, GO, "firstIn(0) = 9", "firstIn(1) = 0", "minute(1) = -1", "firstIn(1) ! 8", "firstIn(0) = 8", "firstIn(2) ! 2", "firstIn(-1) ! 2");
        Document.test("600, 601", SOON, GO, "rule(0, 600) = 1", "firstIn(0) = 600", "rule(0, 601) = 1", "firstIn(0) ! 8");
        promise(37, "carriedIn", "int carriedIn(int motion)");
        Document.says("In how many MINUTES (0 to 600) a MOTION is CARRIED first (2; 8: not in these).");
        Document.test("9, 0, never", SOON, GO, "carriedIn(0) = 9", "carriedIn(1) = 0", "carriedIn(2) ! 8", "minute(1) = -1", "carriedIn(1) ! 8", "carriedIn(3) ! 2", "carriedIn(-1) ! 2");
        Document.test("600, 601", SOON, GO, "rule(0, 600) = 1", "carriedIn(0) = 600", "rule(0, 601) = 1", "carriedIn(0) ! 8");
        promise(38, "reign", "int reign(int party, int minutes)");
        Document.says("For how many of the next MINUTES (1 to 600, behind each) a PARTY GOVERNS (2; 5).");
        Document.test("behind each", SOON, GO, "reign(0, 8) = 0", "reign(0, 9) = 1", "reign(0, 600) = 592", "reign(1, 600) = 0", "reign(1, 1) = 0", "walk(0, 0) = 1", "reign(1, 600) = 600", "reign(1, 1) = 1");
        Document.test("2, 5", SOON, "reign(2, 1) ! 2", "reign(-1, 1) ! 2", "reign(0, 0) ! 5", "reign(0, 601) ! 5");
        promise(39, "emptyIn", "int emptyIn()");
        Document.says("In how many MINUTES (0 to 600) nobody is IN first (8: not in these).");
        Document.test("never, 1, 0", SOON, "emptyIn() ! 8", GO, "emptyIn() = 1", "carry(0, 1) = 0", "emptyIn() = 0", "carry(0, 0) = 1", "walk(1, 1) = 1", "emptyIn() ! 8");
        Document.test("nobody is there", "emptyIn() = 0");
    }
}
