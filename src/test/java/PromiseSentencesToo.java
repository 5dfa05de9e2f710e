/** Promises 40 to 63. */
final class PromiseSentencesToo {
    /** c and d AWAY for 8, or e AWAY for 9. */
    private static final String BREAD = "assembly: party a;party b;member c of a at 1 price 4;member d of a at 1 price 4;member e of a at 0 price 9;member f of b at 99;member g of b at 1;"
        + "motion m for a against b;motion n for b against a;motion o for against a; = 5";
    private static final String ALIKE = "assembly: party a;party b;party c;member d of a at 1;member e of b at 1;member f of c at 1; = 3";
    private static final String[] POWERS = {Rows.HOUSE, "tray(0, 1, 3) = 1", "write(0, 0, 4) = 1", "write(0, 1, 4) = 1", "write(0, 2, 1) = 1"};

    private PromiseSentencesToo() {
    }

    static void run() {
        away();
        games();
        coalitions();
        laws();
        tallies();
        seeks();
        sessions();
        mean();
        marks();
    }

    private static void promise(int number, String title, String call) {
        Document.names("## Promise " + number + ": " + title + " `" + call + "`:");
    }

    private static void away() {
        promise(40, "fewest", "int fewest(int motion)");
        Document.says("FEWEST: how many (2; 8: not by any).");
        Document.test("1, 0, not by any", BREAD, "fewest(0) = 1", "fewest(1) = 0", "fewest(2) ! 8", "fewest(3) ! 2", "fewest(-1) ! 2");
        Document.test("now, though one GOES", "assembly: party a;member b of a at 0;motion m for a against; = 1", "walk(0, 2) = 1", "fewest(0) = 1");
        promise(41, "fewestSet", "int fewestSet(int motion)");
        Document.says("The set of FEWEST (2; 8).");
        Document.test("e, nobody, not by any", BREAD, "fewestSet(0) = 4", "fewestSet(1) = 0", "fewestSet(2) ! 8", "fewestSet(3) ! 2", "fewestSet(-1) ! 2");
        promise(42, "cheapest", "int cheapest(int motion)");
        Document.says("CHEAPEST: PRICES (2; 8).");
        Document.test("8, 0, not by any", BREAD, "cheapest(0) = 8", "cheapest(1) = 0", "cheapest(2) ! 8", "cheapest(3) ! 2", "cheapest(-1) ! 2");
        Document.test("ten", Rows.FULL, "cheapest(4) = 10", "walk(0, 2) = 1", "cheapest(4) = 10");
        promise(43, "cheapestSet", "int cheapestSet(int motion)");
        Document.says("The set of CHEAPEST (2; 8).");
        Document.test("c and d, nobody, not by any", BREAD, "cheapestSet(0) = 3", "cheapestSet(1) = 0", "cheapestSet(2) ! 8", "cheapestSet(3) ! 2", "cheapestSet(-1) ! 2");
        promise(44, "powerBy", "int powerBy(int party, int members)");
        Document.says("POWER of a PARTY, if a set of MEMBERS were AWAY (those DEAD, SICK stay as they are) (2; 5).");
        Document.test("some, all, none", Rows.HOUSE, "powerBy(0, 0) = 1", "powerBy(0, 1) = 4", "powerBy(0, 2) = 1", "powerBy(0, 3) = 4", "powerBy(1, 3) = 3", "powerBy(1, 4) = 4", "powerBy(2, 63) = 1");
        Document.test("now, though some GO", Rows.HOUSE, "walk(0, 2) = 1", "walk(5, 1) = 1", "powerBy(0, 0) = 1", "powerBy(0, 2) = 1", "powerBy(1, 4) = 4");
        Document.test("those DEAD, SICK stay as they are", Rows.HOUSE, "powerBy(1, 8) = 3", "powerBy(2, 16) = 1", "rule(1, 0) = 1", "powerBy(1, 8) = 1", "rule(2, 0) = 1", "powerBy(2, 16) = 0");
        Document.test("2, 5", Rows.HOUSE, "powerBy(3, 0) ! 2", "powerBy(-1, 0) ! 2", "powerBy(0, 64) ! 5", "powerBy(0, -1) ! 5");
    }

    private static void games() {
        promise(45, "game", "int game(int party, int other, int turns)");
        Document.says("GAME; STATUS tells NONE from -1 (2; 5: one and itself, too).");
        // red 1, blue 3; ann AWAY frees bob: 4; cid AWAY: 4.
        Document.test("red and blue", Rows.HOUSE, "game(0, 1, 0) = -2", "game(0, 1, 1) = 1", "game(0, 1, 2) = 0", "game(1, 0, 0) = 2", "game(1, 0, 1) = 3", "game(1, 0, 2) = 0");
        Document.test("now, though one GOES", "assembly: party a;party b;member c of a at 0; = 1", "walk(0, 2) = 1", "game(0, 1, 0) = 0", "game(1, 0, 1) = 0");
        Document.test("NONE, -1", "assembly: party a;party b;member c of b at 1; = 1", "game(0, 1, 0) = -1", "game(0, 2, 0) ! 2", "game(2, 0, 0) ! 2", "game(-1, 0, 0) ! 2", "game(0, -1, 0) ! 2", "game(0, 0, 0) ! 5", "game(0, 1, 4) ! 5",
            "game(0, 1, -1) ! 5");
        promise(46, "moveOf", "int moveOf(int party, int other, int turns)");
        Document.says("MOVE: twice the MEMBER, and 1 more if it is AWAY (2; 5: turns 0, too; 8: nothing).");
        Document.test("ann AWAY, cid AWAY", Rows.HOUSE, "moveOf(0, 1, 1) = 1", "moveOf(1, 0, 1) = 5", "moveOf(0, 1, 2) = 1");
        Document.test("CALLED", "assembly: party a;party b;member c of b at 99;member d of a at 5 hidden;twins c d; = 2", "moveOf(0, 1, 1) = 2");
        Document.test("2, 5, 8", "assembly: party a;party b;member c of b at 1; = 1", "moveOf(0, 2, 1) ! 2", "moveOf(2, 0, 1) ! 2", "moveOf(-1, 0, 1) ! 2", "moveOf(0, -1, 1) ! 2", "moveOf(0, 0, 1) ! 5", "moveOf(0, 1, 0) ! 5",
            "moveOf(0, 1, 4) ! 5", "moveOf(0, 1, -1) ! 5", "moveOf(0, 1, 1) ! 8", "moveOf(0, 1, 3) ! 8");
    }

    private static void coalitions() {
        promise(47, "winning", "int winning()");
        Document.says("How many sets of PARTIES WIN.");
        Document.test("by 1, 3, 1; by 1, 1, 1; by nothing", Rows.HOUSE, "winning() = 4", ALIKE, "winning() = 4", "carry(0, 0) = 1", "winning() = 2", "carry(1, 0) = 1", "winning() = 4", "carry(2, 0) = 1", "winning() = 0");
        promise(48, "wins", "int wins(int parties)");
        Document.says("1 if a set of PARTIES WINS, else 0 (5).");
        Document.test("each", ALIKE, "wins(0) = 0", "wins(1) = 0", "wins(2) = 0", "wins(3) = 1", "wins(4) = 0", "wins(5) = 1", "wins(6) = 1", "wins(7) = 1", "wins(8) ! 5", "wins(-1) ! 5");
        promise(49, "swings", "int swings(int party)");
        Document.says("SWINGS (2).");
        Document.test("by 1, 1, 1; by 2, 1, 1", ALIKE, "swings(0) = 2", "swings(2) = 2", "carry(0, 50) = 1", "swings(0) = 3", "swings(1) = 1", "swings(2) = 1", "swings(3) ! 2", "swings(-1) ! 2");
        promise(50, "share", "boolean share(int party)");
        Document.says("The FRACTION is SWINGS of a PARTY by those of all together (2; 8: there are none).");
        Document.test("3 by 5, 1 by 5, none", ALIKE, "carry(0, 50) = 1", "share(0) = 1", "top() -> 3", "bottom() -> 5", "share(1) = 1", "top() -> 1", "bottom() -> 5", "share(3) ! 2", "share(-1) ! 2", "carry(0, 0) = 50", "carry(1, 0) = 1",
            "carry(2, 0) = 1", "share(0) ! 8", "top() -> 1", "bottom() -> 5");
        Document.test("1 by 1", "assembly: party a;member b of a at 1; = 1", "swings(0) = 1", "share(0) = 1", "top() -> 1", "bottom() -> 1");
        promise(51, "lean", "int lean()");
        Document.says("LEAN sets: how many.");
        Document.test("by 1, 1, 1; by 2, 1, 1; by 2, 1, 0", ALIKE, "lean() = 3", "carry(0, 50) = 1", "lean() = 2", "carry(2, 0) = 1", "lean() = 1", "assembly(0) = 0", "lean() = 0");
    }

    private static void laws() {
        promise(52, "carriedBy", "int carriedBy(int far, int buried, int ill)");
        Document.says("The set of MOTIONS that would be CARRIED by other FAR (1 to 999), BURIED (0 to 99), ILL (0 to 2) (5).");
        // By FAR 41 and BURIED 0 red has 1, blue 1, grey so much as ILL.
        Document.test("each by another one", Rows.HOUSE, "carriedBy(30, 5, 1) = 2", "carriedBy(41, 0, 0) = 0", "carriedBy(41, 0, 1) = 2", "carriedBy(20, 0, 2) = 2", "hide(0, true) = 1", "carry(0, 5) = 0", "carriedBy(40, 0, 0) = 1",
            "carriedBy(41, 0, 0) = 0", "carriedBy(40, 5, 0) = 2", "carriedBy(40, 0, 1) = 1", "carriedBy(40, 0, 2) = 3");
        Document.test("now, though one GOES", Rows.HOUSE, "walk(0, 2) = 1", "carriedBy(1, 0, 0) = 2", "minute(1) = -1", "carriedBy(1, 0, 0) = 1");
        Document.test("the law stays", Rows.HOUSE, "carriedBy(1, 0, 0) = 2", "many(4) = 30", "many(5) = 5", "many(6) = 1");
        Document.test("5", Rows.HOUSE, "carriedBy(1, 0, 0) = 2", "carriedBy(999, 99, 2) = 2", "carriedBy(0, 0, 0) ! 5", "carriedBy(1000, 0, 0) ! 5", "carriedBy(1, -1, 0) ! 5", "carriedBy(1, 100, 0) ! 5", "carriedBy(1, 0, -1) ! 5",
            "carriedBy(1, 0, 3) ! 5");
        promise(53, "farFor", "int farFor(int motion)");
        Document.says("The least FAR by which a MOTION would be CARRIED (2; 8: by none of 1 to 999).");
        Document.test("21, 1, none", "assembly: party a;party b;member c of a at 40;member d of b at 20;motion m for a against b;motion n for b against a;motion o for a b against; = 2", "farFor(0) = 21", "farFor(1) ! 8", "farFor(2) = 1",
            "farFor(3) ! 2", "farFor(-1) ! 2", "many(4) = 50");
        Document.test("now, though one GOES", Rows.HOUSE, "rule(1, 0) = 1", "walk(0, 2) = 1", "farFor(0) ! 8", "minute(1) = 0", "farFor(0) = 1");
        Document.test("999", "assembly: party a;party b;member c of a at 999;member d of b at 998;motion m for a against b; = 2", "farFor(0) = 999", "carry(1, 999) = 998", "farFor(0) ! 8");
    }

    private static void tallies() {
        promise(54, "tally", "int tally(int tray)");
        Document.says("TALLY: in how many WAYS (1; 3; 4).");
        Document.test("2, 0", Rows.join(POWERS, "tally(0) = 2", "write(0, 2, 2) = 1", "tally(0) = 0", "tally(4) ! 1", "tally(-1) ! 1", "tally(1) ! 3", "tray(0, 0, 2) = 1", "tally(0) ! 4", "tray(0, 0, 0) = 1", "assembly(0) = 0", "tally(0) = 1"));
        promise(55, "sure", "int sure(int tray)");
        Document.says("SURE: a set (1; 3; 4; 8: no WAY).");
        Document.test("ann, bob, cid", Rows.join(POWERS, "sure(0) = 7", "write(0, 2, 2) = 1", "sure(0) ! 8", "sure(4) ! 1", "sure(-1) ! 1", "sure(1) ! 3", "tray(0, 0, 2) = 1", "sure(0) ! 4"));
        promise(56, "ask", "int ask(int tray)");
        Document.says("ASK: the MEMBER (1; 3; 4; 8).");
        Document.test("fay", Rows.join(POWERS, "ask(0) = 5", "hide(5, false) = 1", "ask(0) ! 8", "tally(0) = 1", "ask(4) ! 1", "ask(-1) ! 1", "ask(1) ! 3", "tray(0, 0, 2) = 1", "ask(0) ! 4"));
    }

    private static void seeks() {
        promise(57, "seek", "boolean seek()");
        Document.says("The FRACTION is the mean of MINUTES by SEEK (8: no ROOMS with ODDS above 0).");
        Document.test("45 by 2", Rows.HOUSE, "seek() = 1", "top() -> 45", "bottom() -> 2", "assembly: room a takes 7 odds 0; = 0", "seek() ! 8", "assembly: room a takes 7 odds 0;room b takes 9 odds 1; = 0", "seek() = 1", "top() -> 9",
            "bottom() -> 1", "assembly(0) = 0", "seek() ! 8");
        promise(58, "seekAt", "int seekAt(int k)");
        Document.says("The k-th ROOM of SEEK, k from 0 on (8: none, no such).");
        Document.test("attic, hall, cellar", Rows.HOUSE, "seekAt(0) = 1", "seekAt(1) = 0", "seekAt(2) = 2", "seekAt(3) ! 8", "seekAt(-1) ! 8", "seekAt(MAX) ! 8", "seekAt(MIN) ! 8", "assembly: room a takes 7 odds 0; = 0", "seekAt(0) ! 8",
            "assembly(0) = 0", "seekAt(0) ! 8");
    }

    private static void sessions() {
        promise(59, "live", "int live(int seed)");
        Document.says("LIVED: how many STEPS were done (5; 8: no SESSIONS).");
        Document.test("with those within, those MISSED", Rows.HOUSE, "live(0) ! 8", "sessions: loop 2;minute 1;end;come dot;when yards ann>0;die ann;end; = 5", "live(0) = 5", "lived(0) = 1", "live(10000) ! 5", "live(-1) ! 5", "live(9999) = 5");
        promise(60, "lived", "int lived(int what)");
        Document.says("Of live() latest with STATUS 0, what 0: MISSED, 1: MINUTES, 2: BELLS that rang (for nobody, too), 3: deaths, 4: 1 if a STEP was left to be done, else 0 (5; 8: there was none).");
        Document.test("each", Rows.HOUSE, "sessions: die dot;go dot;minute 3;die ann;minute 6;die bob;die bob; = 7", "live(0) = 7", "lived(0) = 3", "lived(1) = 9",
            "lived(2) = 2", "lived(3) = 2", "lived(4) = 0");
        Document.test("BELLS for nobody, too", "assembly: bell 2;party a;party b;member c of a at 0 speed 50;member d of b at 0; = 2", "sessions: minute 5;go c;minute 1; = 3", "live(0) = 3", "lived(2) = 3", "many(15) = 2", "bells(0) = 1");
        Document.test("a STEP is left", "sessions: loop 99;any;any;any;end;any;any;any; = 7", "live(0) = 300", "lived(4) = 1", "sessions: loop 99;any;any;any;end;any;any; = 6", "live(0) = 300", "lived(4) = 0");
        Document.test("the latest with STATUS 0, not mean()", "sessions: minute 5; = 1", "live(0) = 1", "sessions: minute 7; = 1", "live(-1) ! 5", "mean(0, 1) = 1", "lived(1) = 5", "live(0) = 1", "lived(1) = 7");
        Document.test("5, 8", "lived(0) ! 8", "lived(4) ! 8", "lived(5) ! 5", "lived(-1) ! 5", "sessions: any; = 1", "lived(0) ! 8", "mean(0, 1) = 1", "lived(0) ! 8", "live(0) = 1", "lived(0) = 1", "lived(5) ! 5");
    }

    private static void mean() {
        promise(61, "mean", "boolean mean(int seed, int many)");
        Document.says("The FRACTION is the mean of all POWER behind the SESSIONS, by so many seeds (1 to 20) from one on (all stays as it is) (5: the last above 9,999, too; 8).");
        // One of two is drawn, COMES, goes a MINUTE, and is IN: 2 less if it is c, 1 less if it is d.
        String two = "assembly: party a;member c of a at 60 speed 99;member d of a at 9 speed 9; = 2";
        for (int seed : new int[] {0, 1, 2, 3, 17, 9980}) {
            for (int many : new int[] {1, 2, 3, 4, 19, 20}) {
                int sum = 0;
                for (int i = 0; i < many; i++) {
                    int s = ((seed + i) * 2971 + 10723) % 65536;
                    sum += s / 8 % 2 == 0 ? 1 : 2;
                }
                int common = java.math.BigInteger.valueOf(sum).gcd(java.math.BigInteger.valueOf(many)).intValue();
                Document.test("by " + many + " seeds from " + seed + " on", two, "sessions: any;minute 1; = 2", "mean(" + seed + ", " + many + ") = 1", "top() -> " + sum / common, "bottom() -> " + many / common);
            }
        }
        Document.test("all stays as it is", two, "sessions: any;minute 60;die c;fall d; = 4", "rule(2, 0) = 1", "mean(0, 20) = 1", "top() -> 2", "bottom() -> 1", "many(8) = 0", "many(9) = 0", "many(10) = 0", "many(11) = 0", "many(14) = 3",
            "many(15) = 0", "bells(0) = 0", "member(0, 4) = 0", "member(1, 4) = 0", "member(0, 1) = 60", "lived(0) ! 8");
        Document.test("from where all is", two, "sessions: come d;minute 1; = 2", "carry(1, 18) = 9", "mean(5, 1) = 1", "top() -> 3", "carry(1, 9) = 18", "mean(5, 1) = 1", "top() -> 2");
        Document.test("5, 8", two, "mean(0, 1) ! 8", "sessions: any; = 1", "mean(0, 0) ! 5", "mean(0, 21) ! 5", "mean(-1, 1) ! 5", "mean(10000, 1) ! 5", "mean(9981, 20) ! 5", "mean(9980, 20) = 1", "mean(9999, 2) ! 5", "mean(9999, 1) = 1",
            "mean(MAX, MAX) ! 5", "mean(MIN, 1) ! 5");
    }

    private static void marks() {
        promise(62, "mark", "int mark()");
        Document.says("A MARK more: how many there are (7).");
        Document.test("1, 2, 3", "mark() = 1", "mark() = 2", "mark() = 3", "mark() ! 7", "back() = 2", "mark() = 3");
        promise(63, "back", "int back()");
        Document.says("All is taken back to the latest MARK: how many there are left (8).");
        Document.test("2, 1, 0", Rows.HOUSE, "mark() = 1", "die(0) = 4", "mark() = 2", "assembly(0) = 0", "mark() = 3", "minute(5) = -1", "back() = 2", "many(8) = 0", "many(1) = 0", "back() = 1", "many(1) = 6", "many(10) = 9", "back() = 0",
            "many(10) = 8", "back() ! 8");
    }
}
