/** 'Terms', '==== 5.': what STATUS tells, and what a refused call changes; the headings of the interface. */
final class StatusSentences {
    private static final String[] TRAY_CALLS = {"write(#, 0, 5)", "read(#, 0)", "pour(#, 0, 0, 0, 1)", "pour(0, 0, #, 0, 1)", "copyCounts(#)", "tally(#)", "sure(#)", "ask(#)"};

    private StatusSentences() {
    }

    static void run() {
        Document.names("==== 5.");
        first();
        traysAndNames();
        numbers();
        rest();
        refused();
        Document.says("status(), fault(), feed(), top(), bottom() have none.");
        Document.test("behind a refused call", "many(16) ! 5", "status() -> 5", "top() -> 0", "bottom() -> 1", "fault(0) -> -1", "fault(7) -> -1", "feed(0, 0, 0, 0, 0) -> 20", "status() -> 5");
        Document.test("though feed() gives NONE", "tape: " + " ".repeat(900), "mark() = 1", "feed(0, 0, 0, 0, 0) -> -1", "status() -> 0");
        headings();
    }

    private static void first() {
        Document.says("STATUS of a call is the first of these that holds:");
        Document.test("1 ahead of 3, 4, 5, 6", "tray(4, 0, 61) ! 1", "tray(4, 0, -1) ! 1", "tray(0, 4, 61) ! 1", "tray(0, 4, -1) ! 1", "write(4, -1, 0) ! 1", "read(-1, 60) ! 1", "pour(0, 0, 4, 0, 1) ! 1", "copyCounts(4) ! 1");
        Document.test("2 ahead of 5, 9", Rows.HOUSE, "member(6, 9) ! 2", "motion(2, 2) ! 2", "room(3, 2) ! 2", "walk(6, 3) ! 2", "carry(6, 1000) ! 2", "join(6, 3) ! 2", "side(2, 3, 3) ! 2", "side(0, 3, 3) ! 2",
            "yardsIn(6, 601) ! 2", "reign(3, 0) ! 2", "powerBy(3, 64) ! 2", "game(3, 3, 4) ! 2", "moveOf(3, 3, 0) ! 2");
        Document.test("3 ahead of 4", Rows.HOUSE, "write(0, 60, 0) ! 3", "read(0, -1) ! 3", "copyCounts(0) ! 3", "tally(0) ! 3", "sure(0) ! 3", "ask(0) ! 3");
        Document.test("5 ahead of 7", Rows.after9600("minute(399) = -1", "minute(0) ! 5", "minute(601) ! 5", "minute(600) ! 7"));
        Document.test("5 ahead of 8", "live(-1) ! 5", "lived(5) ! 5", "mean(0, 0) ! 5", "mean(-1, 1) ! 5", "governsIn(601) ! 5");
        Document.test("5 ahead of 9", Rows.HOUSE, "walk(3, 3) ! 5", "carry(3, 1000) ! 5", "walk(3, 2) ! 9", "carry(3, 999) ! 9");
        Document.test("4 ahead of 8", Rows.HOUSE, "tray(0, 0, 2) = 1", "sure(0) ! 4", "ask(0) ! 4");
    }

    private static void traysAndNames() {
        Document.says("1 no such TRAY (or sort).");
        for (String call : TRAY_CALLS) {
            Document.test(call, Rows.HOUSE, "tray(0, 0, 60) = 1", call.replace("#", "4") + " ! 1", call.replace("#", "-1") + " ! 1", call.replace("#", "MAX") + " ! 1", call.replace("#", "MIN") + " ! 1");
        }
        Document.test("or sort", "tray(0, 4, 1) ! 1", "tray(0, -1, 1) ! 1", "tray(4, 0, 1) ! 1", "tray(-1, 0, 1) ! 1", "tray(3, 3, 1) = 1");
        Document.says("2 no such PARTY, MEMBER, MOTION, ROOM.");
        String[] parties = {"power(#)", "bells(#)", "join(0, #)", "side(0, #, 0)", "firstIn(#)", "reign(#, 1)", "powerBy(#, 0)", "game(#, 0, 0)", "game(0, #, 0)", "moveOf(#, 0, 1)", "moveOf(0, #, 1)", "swings(#)", "share(#)"};
        String[] members = {"member(#, 0)", "counts(#)", "walk(#, 0)", "die(#)", "fall(#, true)", "hide(#, true)", "carry(#, 0)", "join(#, 1)", "yardsIn(#, 0)"};
        String[] motions = {"motion(#, 0)", "margin(#)", "side(#, 0, 0)", "carriedIn(#)", "fewest(#)", "fewestSet(#)", "cheapest(#)", "cheapestSet(#)", "farFor(#)"};
        noSuch(parties, 3);
        noSuch(members, 6);
        noSuch(motions, 2);
        noSuch(new String[] {"room(#, 0)"}, 3);
        Document.says("3 the TRAY is MISSING.");
        for (String call : TRAY_CALLS) {
            Document.test(call, Rows.HOUSE, "tray(0, 0, 60) = 1", call.replace("#", "1") + " ! 3", call.replace("#", "3") + " ! 3");
        }
        Document.says("4 a place that the TRAY has not, or too few numbers.");
        Document.test("a place", "tray(0, 0, 3) = 1", "write(0, 3, 1) ! 4", "write(0, -1, 1) ! 4", "read(0, 3) ! 4", "read(0, -1) ! 4", "read(0, 2) = 0", "tray(0, 0, 0) = 1", "read(0, 0) ! 4");
        Document.test("too few numbers", Rows.HOUSE, "tray(0, 0, 5) = 1", "tray(1, 0, 2) = 1", "copyCounts(0) ! 4", "tally(1) ! 4", "sure(1) ! 4", "ask(1) ! 4", "pour(0, 0, 1, 0, 3) ! 4", "pour(1, 0, 0, 0, 3) ! 4",
            "pour(0, 4, 1, 0, 2) ! 4", "pour(0, 0, 1, 1, 2) ! 4", "pour(0, -1, 1, 0, 1) ! 4", "pour(0, 0, 1, -1, 1) ! 4");
    }

    private static void noSuch(String[] calls, int many) {
        for (String call : calls) {
            Document.test(call, Rows.HOUSE, call.replace("#", String.valueOf(many)) + " ! 2", call.replace("#", "-1") + " ! 2", call.replace("#", "MAX") + " ! 2", call.replace("#", "MIN") + " ! 2");
        }
    }

    private static void numbers() {
        Document.says("5 a number that can't be (a set with what there is none of, too).");
        Document.test("what", Rows.HOUSE, "many(16) ! 5", "many(-1) ! 5", "member(0, 9) ! 5", "member(0, -1) ! 5", "motion(0, 2) ! 5", "motion(0, -1) ! 5", "room(0, 2) ! 5", "room(0, -1) ! 5", "rule(4, 1) ! 5", "rule(-1, 1) ! 5",
            "side(0, 0, 3) ! 5", "side(0, 0, -1) ! 5", "walk(0, 3) ! 5", "walk(0, -1) ! 5", "lived(5) ! 5", "lived(-1) ! 5");
        Document.test("how many", Rows.HOUSE, "tray(0, 0, 61) ! 5", "assembly(1) ! 5", "assembly(-1) ! 5", "sessions(1) ! 5", "sessions(-1) ! 5", "minute(0) ! 5", "minute(601) ! 5", "carry(0, 1000) ! 5", "carry(0, -1) ! 5",
            "yardsIn(0, 601) ! 5", "yardsIn(0, -1) ! 5", "governsIn(601) ! 5", "governsIn(-1) ! 5", "reign(0, 601) ! 5", "reign(0, 0) ! 5", "game(0, 1, 4) ! 5", "game(0, 0, 1) ! 5", "moveOf(0, 1, 0) ! 5", "moveOf(0, 1, 4) ! 5",
            "carriedBy(0, 0, 0) ! 5", "carriedBy(1, 100, 0) ! 5", "carriedBy(1, 0, 3) ! 5", "live(10000) ! 5", "mean(0, 21) ! 5", "mean(9999, 2) ! 5");
        Document.test("a set with what there is none of", Rows.HOUSE, "powerOf(7) = 5", "powerOf(8) ! 5", "powerOf(-1) ! 5", "wins(8) ! 5", "wins(-1) ! 5", "powerBy(0, 63) = 4", "powerBy(0, 64) ! 5", "powerBy(0, -1) ! 5");
        Document.says("6 below 0 (a TRAY's length).");
        Document.test("of a row, of what is poured", "tray(0, 0, -1) ! 6", "tray(0, 0, MIN) ! 6", "tray(0, 0, 5) = 1", "pour(0, 0, 0, 0, -1) ! 6", "pour(0, 9, 0, 9, MIN) ! 6");
        Document.says("7 one too many.");
        Document.test("MARKS", "mark() = 1", "mark() = 2", "mark() = 3", "mark() ! 7");
        Document.test("MINUTES", Rows.after9600("minute(400) ! 7", "minute(399) = -1", "minute(1) ! 7"));
        Document.says("8 there is none.");
        Document.test("of nobody", "governs() ! 8", "governsIn(0) ! 8", "seek() ! 8", "seekAt(0) ! 8", "live(0) ! 8", "lived(0) ! 8", "mean(0, 1) ! 8", "back() ! 8");
        Document.test("of somebody", "assembly: party a;party b;member c of a at 0;motion m for b against a; = 1", "member(0, 5) ! 8", "member(0, 8) ! 8", "firstIn(0) ! 8", "carriedIn(0) ! 8", "emptyIn() ! 8", "fewest(0) ! 8",
            "fewestSet(0) ! 8", "cheapest(0) ! 8", "cheapestSet(0) ! 8", "moveOf(1, 0, 1) ! 8", "share(0) ! 8", "farFor(0) ! 8", "tray(0, 0, 2) = 1", "ask(0) ! 8", "write(0, 0, 1) = 1", "sure(0) ! 8");
    }

    private static void rest() {
        Document.says("9 it can't be.");
        Document.test("DEAD, or it is so", Rows.HOUSE, "walk(3, 0) ! 9", "die(3) ! 9", "fall(3, true) ! 9", "fall(4, true) ! 9", "fall(0, false) ! 9", "hide(5, true) ! 9", "hide(0, false) ! 9", "carry(3, 5) ! 9", "join(0, 0) ! 9");
        Document.says("10 a FAULT.");
        Document.test("in either text", "tape: party", "assembly(5) ! 10", "tape: minute", "sessions(6) ! 10");
        Document.says("11 TRAYS of unlike sorts.");
        Document.test("each with each", "tray(0, 0, 1) = 1", "tray(1, 1, 1) = 1", "tray(2, 2, 1) = 1", "tray(3, 3, 1) = 1", "pour(0, 0, 1, 0, 1) ! 11", "pour(1, 0, 2, 0, 1) ! 11", "pour(2, 0, 3, 0, 1) ! 11",
            "pour(3, 0, 0, 0, 1) ! 11", "tray(3, 0, 1) = 1", "pour(3, 0, 0, 0, 1) = 1");
        Document.says("0 else.");
        Document.test("behind another one, too", "many(16) ! 5", "many(0) = 0", "back() ! 8", "mark() = 1", "governs() ! 8", "winning() = 0");
        Document.test("though the answer is -1", "minute(1) = -1", "assembly: party a;party b;member c of b at 1;motion m for a against b; = 1", "margin(0) = -1", "game(0, 1, 0) = -1", "tray(0, 0, 1) = 1", "write(0, 0, -1) = 1",
            "read(0, 0) = -1");
    }

    private static void refused() {
        Document.says("A call with another STATUS than 0 gives NONE, or false, and changes nothing but STATUS (but assembly(), sessions() with 10 the tape, and what fault() tells).");
        // Behind each row with ! all that calls can tell is compared with what they tell without that call.
        String[] ahead = {Rows.HOUSE, "sessions: minute 5;any; = 2", "live(3) = 2", "mark() = 1", "walk(1, 2) = 1", "minute(3) = 1", "tray(0, 0, 6) = 1", "write(0, 2, 7) = 1", "tray(1, 1, 2) = 1", "seek() = 1", "tape: party a;",
            "sessions(-1) ! 5"};
        String[] calls = {"tray(0, 0, 61) ! 5", "tray(0, 0, -1) ! 6", "write(0, 6, 9) ! 4", "read(0, 6) ! 4", "pour(0, 0, 1, 0, 1) ! 11", "assembly(21) ! 5", "sessions(21) ! 5", "many(16) ! 5", "member(6, 0) ! 2", "motion(2, 0) ! 2",
            "room(3, 0) ! 2", "counts(6) ! 2", "power(3) ! 2", "powerOf(8) ! 5", "bells(3) ! 2", "margin(2) ! 2", "copyCounts(1) ! 4", "minute(601) ! 5", "walk(0, 3) ! 5", "die(3) ! 9", "fall(4, true) ! 9", "hide(5, true) ! 9",
            "carry(3, 0) ! 9", "rule(0, 1000) ! 5", "rule(3, 0) ! 5", "join(0, 0) ! 9", "side(0, 0, 3) ! 5", "yardsIn(0, 601) ! 5", "governsIn(601) ! 5", "firstIn(3) ! 2", "carriedIn(2) ! 2", "reign(0, 601) ! 5", "emptyIn() ! 8",
            "fewest(2) ! 2", "fewestSet(2) ! 2", "cheapest(2) ! 2", "cheapestSet(2) ! 2", "powerBy(0, 64) ! 5", "game(0, 0, 1) ! 5", "moveOf(0, 1, 0) ! 5", "wins(8) ! 5", "swings(3) ! 2", "share(3) ! 2", "carriedBy(0, 0, 0) ! 5",
            "farFor(2) ! 2", "tally(1) ! 4", "sure(1) ! 4", "ask(1) ! 4", "seekAt(3) ! 8", "live(10000) ! 5", "lived(5) ! 5", "mean(9999, 2) ! 5"};
        for (String call : calls) {
            Document.test("nothing but STATUS", Rows.join(ahead, call));
        }
        Document.test("with 10 the tape, and what fault() tells", Rows.join(ahead, "sessions(8) ! 10", "fault(0) -> 2", "fault(1) -> 0", "sessions(1) ! 5", "assembly: party a;party a; ! 3 @ 14", "fault(0) -> 3", "fault(1) -> 14",
            "many(1) = 6", "live(0) = 2"));
        Document.test("of a full row of MARKS, none", "mark() = 1", "minute(1) = -1", "mark() = 2", "minute(1) = -1", "mark() = 3", "minute(1) = -1", "mark() ! 7", "back() = 2", "many(8) = 2", "back() = 1", "back() = 0", "back() ! 8",
            "many(8) = 0");
    }

    private static void headings() {
        Document.names("Ahead of the calls `tray`, `write`, `read`, `pour` the interface says: ---- TRAYS.");
        Document.names("Ahead of the calls `feed`, `assembly`, `sessions`, `fault`, `many`, `member`, `motion`, `room`, `counts`, `power`, `powerOf`, `governs`, `bells`, `margin`, `copyCounts` the interface says: ---- texts.");
        Document.names("Ahead of the calls `minute`, `walk`, `die`, `fall`, `hide`, `carry`, `year`, `rule`, `join`, `side` the interface says: ---- what is done.");
        Document.says("Ahead of the calls `yardsIn`, `governsIn`, `firstIn`, `carriedIn`, `reign`, `emptyIn` the interface says: ---- what will be, as if only MINUTES go by (9,999 does not matter).");
        String[] soon = {"assembly: far 9;party a;party b;member c of a at 0 speed 1;member d of b at 1;motion m for a against b; = 2", "walk(0, 2) = 1"};
        String[] willBe = {"yardsIn(0, 600) = 600", "governsIn(9) = 0", "firstIn(0) = 9", "carriedIn(0) = 9", "reign(0, 600) = 592", "emptyIn() = 1"};
        String[] nothing = {"member(0, 1) = 0", "bells(0) = 0", "many(9) = 1"};
        Document.test("nothing goes by", Rows.join(Rows.join(soon, willBe), Rows.join(new String[] {"many(8) = 0", "many(15) = 0"}, nothing)));
        String[] late = new String[17];
        java.util.Arrays.fill(late, "minute(600) = 0");
        late[16] = "minute(399) = 0";
        Document.test("9,999 does not matter", Rows.join(Rows.join(Rows.join(soon, late), "many(8) = 9999", "carry(0, 0) = 999"), willBe));
        Document.names("Ahead of the calls `fewest`, `fewestSet`, `cheapest`, `cheapestSet`, `powerBy`, `game`, `moveOf` the interface says: ---- who stays away.");
        Document.names("Ahead of the calls `winning`, `wins`, `swings`, `share`, `lean` the interface says: ---- COALITIONS.");
        Document.names("Ahead of the calls `carriedBy`, `farFor`, `tally`, `sure`, `ask`, `seek`, `seekAt` the interface says: ---- laws, tallies, chairs.");
        Document.names("Ahead of the calls `live`, `lived`, `mean` the interface says: ---- SESSIONS.");
        Document.names("Ahead of the calls `mark`, `back` the interface says: ---- MARKS.");
    }
}
