import java.util.ArrayList;
import java.util.List;

/** 'Terms', '==== 4.': SESSIONS, how they are LIVED, MARKS, FRACTIONS. */
final class SessionSentences {
    /** 30 STEPS. */
    private static final String MOST_STEPS = "any;".repeat(30);

    private SessionSentences() {
    }

    static void run() {
        Document.names("==== 4.");
        text();
        steps();
        tests();
        faults();
        Document.names("```text");
        lived();
        missed();
        loops();
        draws();
        marks();
        fractions();
        Document.names("```");
    }

    private static String ok(String text, int steps) {
        return "sessions: " + text + " = " + steps;
    }

    private static String fault(String text, int kind, int place) {
        return "sessions: " + text + " ! " + kind + " @ " + place;
    }

    /** In the house, the SESSIONS are LIVED by seed 0: so many STEPS, and then the rows. */
    private static void live(String title, String text, int steps, int done, String... rows) {
        Document.test(title, Rows.join(new String[] {Rows.HOUSE, ok(text, steps), "live(0) = " + done}, rows));
    }

    private static void text() {
        Document.says("SESSIONS are a TEXT of at most 300 bytes, of such TOKENS (none at first).");
        Document.test("300 bytes, and not 301", "tape: " + " ".repeat(295) + "stop;", "sessions(301) ! 5", "sessions(300) = 1", "live(0) = 1", "tape: " + " ".repeat(340), "sessions(301) ! 5");
        Document.test("TOKENS", ok("\n minute\n5 ; ", 1), ok("minute5;", 1), fault("anyany;", 2, 0), fault("Any;", 1, 0), fault("any;<", 2, 4), fault("minute 00005;", 1, 7));
        Document.test("none at first", "live(0) ! 8", "mean(0, 1) ! 8");
        Document.says("SESSIONS: {STEP}.");
        Document.test("none, one, several", ok("", 0), ok("any;", 1), ok("any;stop;any;", 3));
        Document.test("nothing besides", fault("far 1;", 2, 0), fault("party a;", 2, 0), fault("1;", 2, 0), fault("a;", 2, 0), fault("governs a;", 2, 0));
    }

    private static void steps() {
        Document.says("STEP: minute NUMBER ;");
        live("as it is told", "minute 7;", 1, 1, "many(8) = 7", fault("minute;", 2, 6), fault("minute ann;", 2, 7), fault("minute 7", 2, 8), fault("minute 7 7;", 2, 9));
        String[] words = {"come", "go", "stay", "die", "fall"};
        String[] then = {"member(1, 4) = 1", "member(1, 4) = 2", "member(1, 4) = 0", "member(1, 5) = 0", "member(1, 6) = 1"};
        for (int i = 0; i < words.length; i++) {
            String w = words[i];
            int n = w.length();
            Document.says("or " + w + " NAME ;");
            Document.test("as it is told", Rows.HOUSE, "walk(1, 2) = 1", ok(w + " bob;", 1), "live(0) = 1", "lived(0) = 0", then[i], fault(w + ";", 2, n), fault(w + " 1;", 2, n + 1), fault(w + " bob", 2, n + 4),
                fault(w + " bob ann;", 2, n + 5));
        }
        Document.says("or any ;");
        live("as it is told", "any;", 1, 1, "member(2, 4) = 1", fault("any", 2, 3), fault("any ann;", 2, 4));
        Document.says("or when TEST ; {STEP} end ;");
        live("true: what is within; false: not", "when yards ann=0;go ann;go bob;end;when yards ann=1;go cid;end;", 5, 4, "member(0, 4) = 2", "member(1, 4) = 2", "member(2, 4) = 0");
        Document.test("nothing left out", Rows.HOUSE, ok("when governs red;end;", 1), fault("when;", 2, 4), fault("when ann;", 2, 5), fault("when governs red end;", 2, 17), fault("when governs red;", 2, 17),
            fault("when governs red;end", 2, 20));
        Document.says("or loop NUMBER ; {STEP} end ;");
        live("so often", "loop 3;minute 1;minute 2;end;minute 4;", 4, 8, "many(8) = 13");
        Document.test("nothing left out", Rows.HOUSE, ok("loop 1;end;", 1), fault("loop;", 2, 4), fault("loop 2 end;", 2, 7), fault("loop 2;", 2, 7), fault("loop 2;end", 2, 10), fault("loop 2;end 2;", 2, 11));
        Document.says("or stop ;");
        live("nothing behind it", "minute 1;loop 9;when yards ann=0;stop;end;minute 2;end;minute 3;", 6, 4, "many(8) = 1", fault("stop", 2, 4), fault("stop 1;", 2, 5));
    }

    private static void tests() {
        Document.says("TEST: governs NAME, or carried NAME, or yards NAME COMPARES NUMBER.");
        live("governs", "when governs blue;minute 1;end;when governs red;minute 9;end;", 4, 3, "many(8) = 1");
        live("carried", "when carried war;minute 1;end;when carried bread;minute 9;end;", 4, 3, "many(8) = 1");
        live("yards", "when yards bob=40;minute 1;end;when yards bob=41;minute 9;end;", 4, 3, "many(8) = 1");
        Document.test("governs: nobody does", "assembly: party a;party b;member c of a at 0;motion m for a against b; = 1", ok("when governs a;stop;end;when governs b;stop;end;when carried m;stop;end;", 6),
            "live(0) = 3");
        Document.test("as it is then", Rows.HOUSE, ok("when yards bob=40;go bob;minute 1;end;when yards bob=50;die ann;end;when carried bread;stop;end;", 7), "live(0) = 7", "member(1, 1) = 50");
        Document.test("one that GOES is where it is", Rows.HOUSE, "walk(0, 2) = 1", ok("when governs blue;when carried war;stop;end;end;", 3), "live(0) = 3", "governsIn(1) ! 8", "minute(1) = -1", "live(0) = 1",
            "assembly: party a;member b of a at 0;motion m for a against; = 1", "walk(0, 2) = 1", ok("when carried m;stop;end;", 2), "live(0) = 1", "minute(1) = 0", "live(0) = 2");
        Document.test("nothing left out", Rows.HOUSE, fault("when governs;", 2, 12), fault("when carried;", 2, 12), fault("when yards;", 2, 10), fault("when yards ann;", 2, 14), fault("when yards ann 5;", 2, 15),
            fault("when yards ann<;", 2, 15), fault("when governs red<5;", 2, 16), fault("when governs 5;", 2, 13));
        Document.says("COMPARES: < or > or =");
        live("less", "when yards bob<41;minute 1;end;when yards bob<40;minute 9;end;", 4, 3, "many(8) = 1");
        live("greater", "when yards bob>39;minute 1;end;when yards bob>40;minute 9;end;", 4, 3, "many(8) = 1");
        live("just so", "when yards bob=40;minute 1;end;when yards bob=39;minute 9;end;when yards bob=41;minute 9;end;", 6, 4, "many(8) = 1");
        Document.test("no other", Rows.HOUSE, fault("when yards bob;40;", 2, 14), fault("when yards bob<=40;", 2, 15), fault("when yards bob!40;", 1, 14));
    }

    private static void faults() {
        Document.says("FAULTS: 1, 2 as above (an end without a beginning; the text's end ahead of an end: 2).");
        Document.test("1", Rows.HOUSE, fault("any;!", 1, 4), fault("any;12345", 1, 4), fault("come Ann;", 1, 5), fault("\u00e4", 1, 0));
        Document.test("2", Rows.HOUSE, fault("come", 2, 4), fault("come  ", 2, 6), fault("come come;", 2, 5), fault("come abcdefghi;", 2, 5));
        Document.test("an end without a beginning", Rows.HOUSE, fault("end;", 2, 0), fault("any; end;", 2, 5), fault("loop 1;end;end;", 2, 11));
        Document.test("the text's end ahead of an end", Rows.HOUSE, fault("loop 1;", 2, 7), fault("loop 1;any; ", 2, 12), fault("loop 1;when governs red;end;", 2, 28));
        Document.test("the first along the text", Rows.HOUSE, fault("minute 0;come red;!", 4, 7), fault("come red;minute 0;!", 3, 5), fault("end;!", 2, 0));
        Document.says("3 a NAME that is no such one (a PARTY behind governs, a MOTION behind carried, else a MEMBER).");
        Document.test("a PARTY behind governs", Rows.HOUSE, fault("when governs ann;end;", 3, 13), fault("when governs war;end;", 3, 13), fault("when governs hall;end;", 3, 13), fault("when governs x;end;", 3, 13));
        Document.test("a MOTION behind carried", Rows.HOUSE, fault("when carried ann;end;", 3, 13), fault("when carried red;end;", 3, 13), fault("when carried hall;end;", 3, 13), fault("when carried x;end;", 3, 13));
        for (String head : new String[] {"come ", "go ", "stay ", "die ", "fall ", "when yards "}) {
            Document.test("else a MEMBER: " + head, Rows.HOUSE, fault(head + "red;", 3, head.length()), fault(head + "war;", 3, head.length()), fault(head + "hall;", 3, head.length()), fault(head + "x;", 3, head.length()));
        }
        Document.says("4 a NUMBER that can't be.");
        Document.test("at it", Rows.HOUSE, fault("minute 0;", 4, 7), fault("minute 61;", 4, 7), fault("loop 0;end;", 4, 5), fault("loop 100;end;", 4, 5), fault("when yards ann=1000;end;", 4, 15));
        Document.says("6 a 31st STEP (at its WORD; end is none).");
        Document.test("30, and no 31st", ok(MOST_STEPS, 30), fault(MOST_STEPS + " minute", 6, 121), fault(MOST_STEPS + "loop", 6, 120));
        Document.test("end is none", ok("loop 1;" + "any;".repeat(28) + "loop 1;end;end;", 30), fault(MOST_STEPS + "end;", 2, 120));
        Document.test("6 ahead of 7", fault("any;".repeat(27) + "loop 1;loop 1;loop 1;loop", 6, 129));
        Document.says("7 a when, loop within three others (at its WORD).");
        Document.test("three, and no fourth", ok("loop 1;loop 1;loop 1;any;end;end;end;", 4), fault("loop 1;loop 1;loop 1; loop", 7, 22), fault("loop 1;loop 1;loop 1;when", 7, 21));
        Document.test("whens, too", Rows.HOUSE, fault("when governs red;when governs red;when governs red;when", 7, 51), ok("loop 1;loop 1;loop 1;end;loop 1;end;end;end;", 4));
    }

    private static void lived() {
        Document.says("minute: so many (1 to 60);");
        live("1, 60", "minute 1;minute 60;", 2, 2, "many(8) = 61", "bells(1) = 15");
        Document.says("fall: it is SICK, or gets up if it was;");
        live("ann, eve", "fall ann;fall eve;", 2, 2, "many(11) = 1", "live(0) = 2", "many(11) = 16", "lived(0) = 0");
        Document.says("any: a MEMBER by a draw by how many there are COMES if it does not, else GOES.");
        live("drawn are 2, 2, 3", "any;", 1, 1, "member(0, 4) = 0", "member(1, 4) = 0", "member(2, 4) = 1", "member(3, 4) = 0", "member(4, 4) = 0", "member(5, 4) = 0");
        live("COMES, then GOES", "any;any;", 2, 2, "member(2, 4) = 2");
        Document.test("one that GOES COMES", Rows.HOUSE, "walk(2, 2) = 1", ok("any;", 1), "live(0) = 1", "member(2, 4) = 1", "live(0) = 1", "member(2, 4) = 2", "live(0) = 1", "member(2, 4) = 1");
    }

    private static void missed() {
        Document.says("What can't be is MISSED: MINUTES beyond 9,999 (as a whole),");
        Document.test("as a whole", Rows.after9600("minute(390) = -1", ok("minute 10;minute 9;minute 1;", 3), "live(0) = 3", "lived(0) = 2", "lived(1) = 9", "many(8) = 9999"));
        Document.says("whatever is told of the DEAD (by any, too),");
        live("come, go, stay, die, fall", "come dot;go dot;stay dot;die dot;fall dot;", 5, 5, "lived(0) = 5", "lived(3) = 0", "member(3, 4) = 0", "member(3, 5) = 5", "member(3, 6) = 0");
        live("by any, too: drawn are 2, 2, 3", "any;any;any;", 3, 3, "lived(0) = 1", "member(3, 4) = 0");
        Document.says("any without MEMBERS (no draw).");
        Document.test("nobody is there", "assembly: party a; = 0", ok("any;any;", 2), "live(0) = 2", "lived(0) = 2");
        Document.says("when yards: 0 to 999.");
        Document.test("the least, the most", Rows.HOUSE, ok("when yards ann=0;end;when yards ann=999;end;", 2), fault("when yards ann=1000;end;", 4, 15));
    }

    private static void loops() {
        Document.says("loop n (1 to 99): as often.");
        live("1, 99", "loop 1;minute 1;end;loop 99;minute 2;end;", 4, 102, "many(8) = 199");
        live("a loop in a loop", "loop 3;loop 5;minute 1;end;end;", 3, 19, "many(8) = 15");
        live("three within each other", "loop 2;loop 3;loop 4;minute 1;end;end;end;", 4, 33, "many(8) = 24");
        live("three whens, too", "when yards ann=0;when yards ann=0;when yards ann=0;minute 1;end;end;end;", 4, 4, "many(8) = 1");
        Document.test("0, 100", fault("loop 0;end;", 4, 5), fault("loop 100;end;", 4, 5));
        Document.says("At most 300 STEPS (when, loop count as one each time they are come to from ahead; end does not).");
        live("300, and no 301st", "loop 99;minute 1;minute 1;minute 1;end;minute 1;minute 1;minute 1;", 7, 300, "many(8) = 299", "lived(4) = 1");
        live("a loop is one, each time it is come to", "loop 99;loop 3;minute 1;end;end;", 3, 300, "many(8) = 224", "lived(4) = 1");
        live("a when is one, true or false", "loop 50;when yards ann=0;end;when yards ann=1;minute 1;end;end;", 4, 101, "lived(4) = 0", "many(8) = 0");
        live("an end is none", "loop 99;loop 1;end;loop 1;end;end;", 3, 199, "lived(4) = 0");
    }

    private static int next(int s) {
        return (int) ((s * 2971L + 10723L) % 65536L);
    }

    private static void draws() {
        Document.says("LIVED by a seed (0 to 9,999): all is as it is then.");
        Document.test("0 to 9,999", Rows.HOUSE, ok("any;", 1), "live(0) = 1", "live(9999) = 1", "live(-1) ! 5", "live(10000) ! 5");
        Document.test("all is as it is then", Rows.HOUSE, ok("go ann;fall bob;die cid;minute 8;", 4), "live(0) = 4", "many(8) = 8", "member(0, 1) = 40", "member(0, 4) = 2", "member(1, 6) = 1", "member(2, 5) = 0",
            "bells(1) = 2", "many(14) = 8", "live(0) = 4", "many(8) = 16", "member(0, 1) = 80", "member(1, 6) = 0");
        Document.says("Draws: s, at first the seed, becomes what is left of s times 2,971 and 10,723 by 65,536; the draw by n is the rest of s by 8, rounded down, by n.");
        // By hand: 0 gives 10,723, 18,260, 62,911, and by 6 the draws 2, 2, 3; 9,999 gives 29,944, and by 6 the draw 5.
        live("seed 0, by 6", "any;any;any;", 3, 3, "member(2, 4) = 2", "lived(0) = 1");
        Document.test("seed 9,999, by 6", Rows.HOUSE, ok("any;", 1), "live(9999) = 1", "member(5, 4) = 1");
        Document.test("each time from the seed on", Rows.HOUSE, ok("any;", 1), "live(0) = 1", "live(0) = 1", "live(0) = 1", "member(2, 4) = 1", "lived(0) = 0");
        for (int members = 1; members <= 10; members++) {
            for (int seed : new int[] {1, 77, 5000, 9998}) {
                drawn(members, seed);
            }
        }
    }

    /** A MEMBER COMES if it was drawn an odd number of times of 20, else GOES, if it was drawn. */
    private static void drawn(int members, int seed) {
        int[] times = new int[members];
        int s = seed;
        for (int i = 0; i < 20; i++) {
            s = next(s);
            times[s / 8 % members]++;
        }
        List<String> rows = new ArrayList<>(List.of("assembly: party a;" + Rows.many("member # of a at 9;", 'b', members) + " = " + members, ok("loop 20;any;end;", 2), "live(" + seed + ") = 21"));
        for (int m = 0; m < members; m++) {
            rows.add("member(" + m + ", 4) = " + (times[m] == 0 ? 0 : times[m] % 2 == 1 ? 1 : 2));
        }
        Document.test("20 draws by " + members + ", seed " + seed, rows.toArray(new String[0]));
    }

    private static void marks() {
        Document.says("MARKS, at most 3:");
        Document.test("3, and no fourth", "mark() = 1", "mark() = 2", "mark() = 3", "mark() ! 7", "back() = 2", "mark() = 3");
        Document.says("the ASSEMBLY with all that became of it, the SESSIONS are kept as they are;");
        String[] spoil = {"mark() = 1", "minute(8) = 0", "walk(1, 2) = 1", "walk(2, 1) = 1", "die(0) = 4", "year() = 1", "fall(4, false) = 1", "hide(5, false) = 1", "carry(5, 100) = 10", "rule(0, 60) = 1",
            "rule(1, 60) = 1", "rule(2, 2) = 1", "rule(3, 60) = 1", "join(5, 0) = 2", "side(0, 2, 0) = 1", "side(1, 2, 1) = 1", ok("die bob;any;", 2), "back() = 0"};
        String[] asItWas = {"many(4) = 30", "many(5) = 5", "many(6) = 1", "many(7) = 4", "many(8) = 4", "bells(1) = 0", "bells(0) = 0", "many(15) = 1", "member(0, 1) = 20", "member(0, 4) = 2", "member(0, 5) ! 8",
            "member(1, 4) = 0", "member(2, 4) = 0", "member(3, 5) = 5", "member(4, 6) = 1", "member(5, 7) = 1", "member(5, 1) = 10", "member(5, 0) = 2", "motion(0, 0) = 1", "motion(1, 1) = 1", "live(0) = 1", "many(8) = 7"};
        Document.test("all that became of it", Rows.join(Rows.join(new String[] {Rows.HOUSE, ok("minute 3;", 1), "walk(0, 2) = 1", "minute(4) = -1"}, spoil), asItWas));
        Document.test("another ASSEMBLY", Rows.HOUSE, ok("minute 3;", 1), "mark() = 1", "assembly: party a; = 0", "back() = 0", "many(0) = 3", "many(1) = 6", "many(2) = 2", "many(3) = 3", "member(1, 8) = 0",
            "room(1, 0) = 20", ok("die ann;when governs red;end;when carried war;end;", 3), "live(0) = 3");
        Document.test("no SESSIONS", Rows.HOUSE, "mark() = 1", ok("minute 3;", 1), "back() = 0", "live(0) ! 8");
        Document.says("all is taken back to the latest MARK, which is gone then.");
        Document.test("the latest first", "mark() = 1", "minute(1) = -1", "mark() = 2", "minute(10) = -1", "mark() = 3", "minute(100) = -1", "back() = 2", "many(8) = 11", "back() = 1", "many(8) = 1", "back() = 0",
            "many(8) = 0", "back() ! 8");
    }

    private static void fractions() {
        Document.says("FRACTIONS are told by top() and bottom() without a common divisor, the bottom above 0; 0 is 0 by 1.");
        Document.test("360 by 16 is 45 by 2; 4 by 4 is 1 by 1; 0 by 4 is 0 by 1", Rows.HOUSE, "seek() = 1", "top() -> 45", "bottom() -> 2", "share(1) = 1", "top() -> 1", "bottom() -> 1", "share(0) = 1", "top() -> 0",
            "bottom() -> 1");
        Document.test("2 by 6 is 1 by 3", "assembly: party a;party b;party c;member d of a at 1;member e of b at 1;member f of c at 1; = 3", "share(2) = 1", "top() -> 1", "bottom() -> 3");
        Document.test("100 by 20 is 5 by 1", Rows.HOUSE, ok("any;", 1), "mean(0, 20) = 1", "top() -> 5", "bottom() -> 1");
    }
}
