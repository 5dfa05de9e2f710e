/** Promise 11: which texts are SESSIONS; 59 to 61: how they are LIVED. */
final class SessionBounds {
    private static final int STEPS = 30;

    private SessionBounds() {
    }

    static void run() {
        tokens();
        grammar();
        names();
        numbers();
        manySteps();
        depth();
        seeds();
        draws();
        minutes();
        missed();
        tests();
        loops();
        limit();
        stops();
        lived();
        means();
    }

    private static void ok(String title, String text, int steps, String... rows) {
        Rows.test(11, title, Rows.join(new String[] {Rows.HOUSE, "sessions: " + text + " = " + steps}, rows));
    }

    private static void fault(String title, String text, int kind, int place) {
        Rows.test(11, title, Rows.HOUSE, "sessions: " + text + " ! " + kind + " @ " + place);
    }

    private static void tokens() {
        for (int b = 0; b < 256; b++) {
            char sign = (char) b;
            boolean isToken = sign >= 'a' && sign <= 'z' || sign >= '0' && sign <= '9' || ";<>=".indexOf(sign) >= 0;
            if (b == 10 || b == 32) {
                ok("byte " + b + " is a blank", sign + "any" + sign + ";" + sign, 1);
            } else {
                fault("byte " + b, "any;" + sign, isToken ? 2 : 1, 4);
            }
        }
        ok("no blank is needed beside SIGNS and NUMBERS", "when yards ann<5;minute5;end;", 2);
        fault("a WORD is as long as it goes", "anyany;", 2, 0);
        ok("a NUMBER of 4 digits", "minute 0060;loop 0099;end;when yards ann=0999;end;", 3);
        fault("5 digits", "minute 00060;", 1, 7);
        fault("5 digits where a NAME must stand", "come 12345;", 1, 5);
        fault("5 digits where a STEP begins", "12345", 1, 0);
        fault("5 digits where COMPARES must stand", "when yards ann 12345;", 1, 15);
    }

    private static void grammar() {
        fault("an end without a beginning", "end;", 2, 0);
        fault("an end more", "loop 1;end;end;", 2, 11);
        fault("the text's end ahead of an end", "loop 1;", 2, 7);
        fault("the text's end, behind blanks", "loop 1; \n", 2, 9);
        fault("the text's end ahead of the second end", "loop 1;when governs red;end;", 2, 28);
        fault("the text's end ahead of the third end", "loop 1;loop 1;loop 1;end;end;", 2, 29);
        fault("end without a ;", "loop 1;end", 2, 10);
        for (String word : "minute come go stay die fall when loop".split(" ")) {
            fault(word + " alone", word, 2, word.length());
            fault(word + " with a ;", word + ";", 2, word.length());
        }
        for (String word : "far buried ill bell party member of at speed price dead sick hidden twins motion for against room takes odds governs carried yards".split(" ")) {
            fault(word + " begins no STEP", word + " ann;", 2, 0);
            fault(word + " is no NAME", "come " + word + ";", 2, 5);
        }
        fault("a NAME begins no STEP", "ann;", 2, 0);
        fault("a NUMBER begins no STEP", "1;", 2, 0);
        fault("a SIGN begins no STEP", "<;", 2, 0);
        fault("any takes nothing", "any ann;", 2, 4);
        fault("stop takes nothing", "stop 1;", 2, 5);
        fault("no TEST", "when ann;end;", 2, 5);
        fault("no COMPARES", "when yards ann 5;end;", 2, 15);
        fault("; is no COMPARES", "when yards ann ; 5;end;", 2, 15);
        fault("COMPARES twice", "when yards ann <= 5;end;", 2, 16);
        fault("no NUMBER", "when yards ann <;end;", 2, 16);
        fault("governs compares nothing", "when governs red = 1;end;", 2, 17);
        fault("carried compares nothing", "when carried war = 1;end;", 2, 17);
        ok("nothing", "", 0);
        ok("blanks alone", " \n ", 0);
        ok("nothing within", "loop 1;end;when governs red;end;", 2);
    }

    private static void names() {
        for (String word : "come go stay die fall".split(" ")) {
            int at = word.length() + 1;
            ok(word + " the first, the last MEMBER", word + " ann;" + word + " fay;", 2);
            for (String other : "red bread hall nobody an annn".split(" ")) {
                fault(word + " one that is no MEMBER", word + " " + other + ";", 3, at);
            }
            fault(word + " 9 letters", word + " aaaaaaaaa;", 2, at);
        }
        for (String other : "ann bread hall nobody".split(" ")) {
            fault("governs one that is no PARTY", "when governs " + other + ";end;", 3, 13);
        }
        for (String other : "ann red hall nobody".split(" ")) {
            fault("carried one that is no MOTION", "when carried " + other + ";end;", 3, 13);
        }
        for (String other : "red bread hall nobody".split(" ")) {
            fault("yards of one that is no MEMBER", "when yards " + other + "=1;end;", 3, 11);
        }
        fault("9 letters behind governs", "when governs aaaaaaaaa;end;", 2, 13);
        ok("the first and the last PARTY and MOTION", "when governs red;end;when governs grey;end;when carried bread;end;when carried war;end;", 4);
        Rows.test(11, "in an ASSEMBLY of nobody", "sessions: come ann; ! 3 @ 5", "sessions: when governs red;end; ! 3 @ 13", "sessions: when carried war;end; ! 3 @ 13", "sessions: any; = 1");
        Rows.test(11, "NAMES of 8 letters", "assembly: party abcdefgh;member bbbbbbbb of abcdefgh at 1;motion cccccccc for abcdefgh against; = 1", "sessions: die bbbbbbbb;when governs abcdefgh;stop;end; = 3",
            "sessions: die bbbbbbb; ! 3 @ 4", "sessions: die bbbbbbbbb; ! 2 @ 4", "live(0) = 3");
        Rows.test(11, "the tenth, the fourth, the fifth", Rows.FULL, "sessions: die n;when governs d;end;when carried s;end; = 3", "live(0) = 3", "many(10) = 512");
    }

    private static void numbers() {
        ok("minute 1 and 60", "minute 1;minute 60;", 2, "live(0) = 2", "many(8) = 61");
        fault("minute 0", "minute 0;", 4, 7);
        fault("minute 61", "minute 61;", 4, 7);
        fault("minute 9999", "minute 9999;", 4, 7);
        ok("loop 1 and 99", "loop 1;minute 1;end;loop 99;minute 1;end;", 4, "live(0) = 102", "many(8) = 100");
        fault("loop 0", "loop 0;end;", 4, 5);
        fault("loop 100", "loop 100;end;", 4, 5);
        ok("yards 0 and 999", "when yards ann=0;end;when yards ann<999;end;", 2);
        fault("yards 1000", "when yards ann=1000;end;", 4, 15);
    }

    private static void manySteps() {
        ok("30 STEPS", "any;".repeat(STEPS), STEPS, "live(0) = 30");
        ok("29 STEPS", "any;".repeat(STEPS - 1), STEPS - 1);
        fault("a 31st", "any;".repeat(STEPS + 1), 6, 120);
        fault("a 31st, at its WORD", "any;".repeat(STEPS) + " minute", 6, 121);
        ok("an end is none", "any;".repeat(STEPS - 1) + "loop 1;end;", STEPS);
        ok("ends behind 30 STEPS", "loop 1;loop 1;" + "any;".repeat(STEPS - 2) + "end;end;", STEPS);
        fault("a 31st within a loop", "loop 1;" + "any;".repeat(STEPS) + "end;", 6, 123);
        fault("behind 30 STEPS an end without a beginning: 2", "any;".repeat(STEPS) + "end;", 2, 120);
        fault("behind 30 STEPS what is no STEP: 2", "any;".repeat(STEPS) + "far;", 2, 120);
        fault("behind 30 STEPS no TOKEN: 1", "any;".repeat(STEPS) + "!", 1, 120);
        fault("a 31st that is too deep: 6", "any;".repeat(STEPS - 3) + "loop 1;loop 1;loop 1;loop 1;", 6, 129);
        fault("a 30th that is too deep: 7", "any;".repeat(STEPS - 4) + "loop 1;loop 1;loop 1;loop 1;", 7, 125);
        Rows.test(11, "a text with a FAULT leaves the next one its 30 STEPS", Rows.HOUSE, "sessions: " + "any;".repeat(31) + " ! 6 @ 120", "sessions: " + "any;".repeat(30) + " = 30");
    }

    private static void depth() {
        ok("within two others", "loop 1;loop 1;loop 1;any;end;end;end;", 4, "live(0) = 4");
        ok("when as well", "when yards ann=0;when yards ann=0;when yards ann=0;any;end;end;end;", 4, "live(0) = 4");
        fault("loop within three others", "loop 1;loop 1;loop 1;loop 1;end;end;end;end;", 7, 21);
        fault("when within three others", "loop 1;when governs red;loop 1;when", 7, 31);
        fault("at its WORD, whatever is behind it", "loop 1;loop 1;loop 1; loop !", 7, 22);
        ok("one behind the other, not within", "loop 1;loop 1;loop 1;end;loop 1;end;end;loop 1;loop 1;end;end;end;", 6);
        Rows.test(11, "a text with a FAULT leaves the next one its depth", Rows.HOUSE, "sessions: loop 1;loop 1;loop 1; ! 2 @ 21", "sessions: loop 1;loop 1;loop 1;end;end;end; = 3");
    }

    private static void seeds() {
        Rows.test(59, "seeds are 0 to 9,999", Rows.HOUSE, "sessions: any; = 1", "live(0) = 1", "live(9999) = 1", "live(-1) ! 5", "live(10000) ! 5", "live(MIN) ! 5", "live(MAX) ! 5");
        Rows.test(59, "no SESSIONS", Rows.HOUSE, "live(0) ! 8", "live(9999) ! 8", "live(-1) ! 5", "live(10000) ! 5");
        Rows.test(59, "SESSIONS without a STEP", Rows.HOUSE, "sessions(0) = 0", "live(0) = 0", "lived(0) = 0", "lived(4) = 0");
        Rows.test(59, "the SESSIONS stay", Rows.HOUSE, "sessions: minute 1; = 1", "live(0) = 1", "live(0) = 1", "many(8) = 2");
        Rows.test(59, "gone with their ASSEMBLY", Rows.HOUSE, "sessions: any; = 1", "live(0) = 1", "assembly: party a; = 0", "live(0) ! 8");
    }

    private static int next(int s) {
        return (int) ((s * 2971L + 10723L) % 65536L);
    }

    // By each seed one STEP "any": the MEMBER drawn COMES, all others STAY.
    private static void draws() {
        for (int seed : new int[] {0, 1, 21, 22, 4999, 9998, 9999}) {
            for (int members = 1; members <= 10; members++) {
                int drawn = next(seed) / 8 % members;
                int then = next(next(seed)) / 8 % members;
                String[] rows = {"assembly: party a;" + Rows.many("member # of a at 9;", 'b', members) + " = " + members, "sessions: any; = 1", "live(" + seed + ") = 1", "member(" + drawn + ", 4) = 1",
                    "walk(" + drawn + ", 0) = 1", "sessions: any;any; = 2", "live(" + seed + ") = 2", "member(" + drawn + ", 4) = " + (drawn == then ? 2 : 1), "member(" + then + ", 4) = " + (drawn == then ? 2 : 1)};
                Rows.test(59, "a draw by " + members + ", seed " + seed, rows);
            }
        }
        Rows.test(59, "COMES if it does not, else GOES", "assembly: party a;member b of a at 9; = 1", "sessions: any; = 1", "live(0) = 1", "member(0, 4) = 1", "live(0) = 1", "member(0, 4) = 2", "live(0) = 1", "member(0, 4) = 1",
            "walk(0, 0) = 1", "live(0) = 1", "member(0, 4) = 1");
        Rows.test(59, "one that is SICK, too", "assembly: party a;member b of a at 9 sick; = 1", "sessions: any; = 1", "live(0) = 1", "lived(0) = 0", "member(0, 4) = 1");
        Rows.test(59, "of the DEAD: MISSED, but drawn", "assembly: party a;member b of a at 9 dead 1; = 1", "sessions: any;any; = 2", "live(0) = 2", "lived(0) = 2", "member(0, 4) = 0");
        Rows.test(59, "without MEMBERS: MISSED", "sessions: any; = 1", "live(0) = 1", "lived(0) = 1");
    }

    private static void minutes() {
        Rows.test(59, "up to 9,999", Rows.after9600("sessions: loop 6;minute 60;end;minute 39; = 3", "live(0) = 8", "lived(0) = 0", "lived(1) = 399", "lived(2) = 39", "many(8) = 9999"));
        Rows.test(59, "beyond 9,999 they are MISSED as a whole", Rows.after9600("sessions: loop 6;minute 60;end;minute 40;minute 39;minute 1; = 5", "live(0) = 10", "lived(0) = 2", "lived(1) = 399", "lived(2) = 39",
            "many(8) = 9999"));
        Rows.test(59, "all MISSED at 9,999", Rows.after9600("minute(399) = -1", "sessions: minute 1;minute 60; = 2", "live(0) = 2", "lived(0) = 2", "lived(1) = 0", "lived(2) = 0", "many(8) = 9999"));
        Rows.test(59, "BELLS ring in SESSIONS", Rows.HOUSE, "sessions: minute 3;minute 1;minute 60; = 3", "live(0) = 3", "lived(2) = 16", "bells(1) = 16");
    }

    private static void missed() {
        for (String word : "come go stay fall die".split(" ")) {
            Rows.test(59, word + " of the DEAD is MISSED", Rows.HOUSE, "sessions: " + word + " dot; = 1", "live(0) = 1", "lived(0) = 1", "lived(3) = 0", "member(3, 4) = 0", "member(3, 5) = 5", "member(3, 6) = 0");
        }
        Rows.test(59, "come, go, stay, the latest being so", Rows.HOUSE, "sessions: go ann;come ann;stay ann;stay bob;go bob;come bob;come cid;stay cid;go cid; = 9", "live(0) = 9", "lived(0) = 0", "member(0, 4) = 0", "member(1, 4) = 1",
            "member(2, 4) = 2");
        Rows.test(59, "what is so already is not MISSED", Rows.HOUSE, "sessions: stay ann;come bob;come bob;go cid;go cid; = 5", "live(0) = 5", "lived(0) = 0", "member(0, 4) = 0", "member(1, 4) = 1", "member(2, 4) = 2");
        Rows.test(59, "fall: SICK, or up if it was", Rows.HOUSE, "sessions: fall ann;fall eve; = 2", "live(0) = 2", "lived(0) = 0", "many(11) = 1", "live(0) = 2", "many(11) = 16");
        Rows.test(59, "die once, MISSED then", Rows.HOUSE, "sessions: die ann;die ann; = 2", "live(0) = 2", "lived(0) = 1", "lived(3) = 1", "live(0) = 2", "lived(0) = 2", "lived(3) = 0");
        Rows.test(59, "die: 0 YEARS, STAYS", Rows.HOUSE, "sessions: go ann;die ann; = 2", "live(0) = 2", "member(0, 4) = 0", "member(0, 5) = 0", "lived(3) = 1");
    }

    private static void tests() {
        String[] compares = {"<", "=", ">"};
        int[] at = {0, 1, 998, 999};
        for (int yards : at) {
            for (int than : new int[] {0, 1, 998, 999}) {
                int sign = Integer.compare(yards, than) + 1;
                for (int i = 0; i < 3; i++) {
                    Rows.test(59, yards + " YARDS " + compares[i] + " " + than, "assembly: party a;member b of a at " + yards + "; = 1", "sessions: when yards b" + compares[i] + than + ";die b;end; = 2",
                        "live(0) = " + (i == sign ? 2 : 1), "lived(3) = " + (i == sign ? 1 : 0));
                }
            }
        }
        Rows.test(59, "governs: nobody is no PARTY", "assembly: party a;party b;member c of a at 1;member d of b at 1; = 2", "sessions: when governs a;stop;end;when governs b;stop;end; = 4", "live(0) = 2", "carry(1, 50) = 1",
            "live(0) = 3", "carry(0, 51) = 1", "live(0) = 2");
        Rows.test(59, "carried: greater, not as great", "assembly: party a;party b;member c of a at 1;member d of b at 1;motion m for a against b; = 2", "sessions: when carried m;stop;end; = 2", "live(0) = 1",
            "carry(0, 50) = 1", "live(0) = 2", "carry(0, 0) = 50", "live(0) = 1");
        Rows.test(59, "yards of the DEAD and the SICK", Rows.HOUSE, "sessions: when yards dot=60;any;end;when yards eve=0;any;end; = 4", "live(0) = 4");
    }

    private static void loops() {
        Rows.test(59, "loop 1: once; loop 99: 99 times", "sessions: loop 1;minute 1;end; = 2", "live(0) = 2", "many(8) = 1", "sessions: loop 99;minute 1;end; = 2", "live(0) = 100", "many(8) = 100");
        Rows.test(59, "nothing within: one STEP", "sessions: loop 99;end;loop 99;loop 99;end;end; = 3", "live(0) = 101", "lived(4) = 0");
        Rows.test(59, "a when that is false: one STEP", Rows.HOUSE, "sessions: when yards ann=1;any;any;end;minute 1; = 4", "live(0) = 2", "lived(1) = 1");
        Rows.test(59, "a when within a loop counts each time", Rows.HOUSE, "sessions: loop 9;when yards ann=1;any;end;end; = 3", "live(0) = 10");
    }

    // loop 99 with three STEPS within: 298 STEPS.
    private static void limit() {
        String most = "sessions: loop 99;minute 1;minute 1;minute 1;end;";
        Rows.test(59, "299 STEPS", most + "minute 1; = 5", "live(0) = 299", "lived(4) = 0", "lived(1) = 298");
        Rows.test(59, "300 STEPS, none is left", most + "minute 1;minute 1; = 6", "live(0) = 300", "lived(4) = 0", "lived(1) = 299");
        Rows.test(60, "a 301st is left", most + "minute 1;minute 1;minute 1; = 7", "live(0) = 300", "lived(4) = 1", "lived(1) = 299", "many(8) = 299");
        Rows.test(60, "a stop is left", most + "minute 1;minute 1;stop; = 7", "live(0) = 300", "lived(4) = 1");
        Rows.test(60, "the 300th is a stop", most + "minute 1;stop;minute 1; = 7", "live(0) = 300", "lived(4) = 0");
        Rows.test(60, "the 300th is a loop with nothing within", most + "minute 1;loop 99;end; = 6", "live(0) = 300", "lived(4) = 0");
        Rows.test(60, "the 300th is a loop with a STEP within", most + "minute 1;loop 1;minute 1;end; = 7", "live(0) = 300", "lived(4) = 1");
        Rows.test(60, "the 300th is a when that is false", Rows.HOUSE, most + "minute 1;when yards ann=1;any;end; = 7", "live(0) = 300", "lived(4) = 0");
        Rows.test(60, "the 300th is a when that is true", Rows.HOUSE, most + "minute 1;when yards ann=0;any;end; = 7", "live(0) = 300", "lived(4) = 1");
        Rows.test(60, "the 301st is a when that is false", Rows.HOUSE, most + "minute 1;minute 1;when yards ann=1;any;end; = 8", "live(0) = 300", "lived(4) = 1");
        Rows.test(60, "the 301st is a loop", most + "minute 1;minute 1;loop 1;end; = 7", "live(0) = 300", "lived(4) = 1");
        Rows.test(60, "the 300th ends a loop that goes on", "sessions: loop 2;loop 99;minute 1;minute 1;end;loop 99;minute 1;end;end; = 6", "live(0) = 300", "lived(4) = 1", "lived(1) = 297");
        // 1, and 13 times 1 and 22.
        Rows.test(60, "the 300th is the last of all loops", "sessions: loop 13;loop 22;minute 1;end;end; = 3", "live(0) = 300", "lived(4) = 0", "lived(1) = 286");
        Rows.test(60, "missed STEPS count", "sessions: loop 99;any;any;any;end;any;any;any; = 7", "live(0) = 300", "lived(0) = 299", "lived(4) = 1");
    }

    private static void stops() {
        Rows.test(59, "stop as the first", Rows.HOUSE, "sessions: stop;die ann; = 2", "live(0) = 1", "lived(3) = 0", "lived(4) = 0");
        Rows.test(59, "stop within three", Rows.HOUSE, "sessions: loop 9;loop 9;when yards ann=0;stop;end;minute 1;end;minute 1;end;minute 1; = 7", "live(0) = 4", "lived(1) = 0", "lived(4) = 0");
        Rows.test(59, "stop as the last", Rows.HOUSE, "sessions: minute 1;stop; = 2", "live(0) = 2", "lived(4) = 0");
    }

    private static void lived() {
        Rows.test(60, "what is 0 to 4", Rows.HOUSE, "sessions: minute 4;die dot;die ann; = 3", "live(0) = 3", "lived(0) = 1", "lived(1) = 4", "lived(2) = 1", "lived(3) = 1", "lived(4) = 0", "lived(-1) ! 5", "lived(5) ! 5",
            "lived(MIN) ! 5", "lived(MAX) ! 5");
        Rows.test(60, "there was none", "lived(0) ! 8", "lived(4) ! 8", "lived(5) ! 5", "lived(-1) ! 5", "sessions: any; = 1", "lived(0) ! 8", "live(10000) ! 5", "lived(0) ! 8", "mean(0, 1) = 1", "lived(0) ! 8");
        Rows.test(60, "of the latest with STATUS 0", Rows.HOUSE, "sessions: minute 5; = 1", "live(0) = 1", "live(-1) ! 5", "lived(1) = 5", "sessions: minute 6; = 1", "lived(1) = 5", "mean(0, 20) = 1", "lived(1) = 5", "live(0) = 1",
            "lived(1) = 6", "assembly(0) = 0", "live(0) ! 8", "lived(1) = 6");
        Rows.test(60, "BELLS for nobody, too", "sessions: minute 60; = 1", "live(0) = 1", "lived(2) = 6");
        Rows.test(60, "each live() tells its own", Rows.HOUSE, "sessions: minute 3;die ann; = 2", "live(0) = 2", "lived(2) = 0", "lived(3) = 1", "live(0) = 2", "lived(2) = 1", "lived(3) = 0", "lived(0) = 1", "lived(1) = 3");
    }

    private static void means() {
        Rows.test(61, "seeds are 0 to 9,999", Rows.HOUSE, "sessions: die ann; = 1", "mean(0, 1) = 1", "mean(9999, 1) = 1", "mean(-1, 1) ! 5", "mean(10000, 1) ! 5", "mean(MIN, 1) ! 5", "mean(MAX, 1) ! 5");
        Rows.test(61, "1 to 20 seeds", Rows.HOUSE, "sessions: die ann; = 1", "mean(0, 20) = 1", "mean(0, 0) ! 5", "mean(0, 21) ! 5", "mean(0, -1) ! 5", "mean(0, MIN) ! 5", "mean(0, MAX) ! 5");
        Rows.test(61, "the last above 9,999", Rows.HOUSE, "sessions: die ann; = 1", "mean(9980, 20) = 1", "mean(9981, 20) ! 5", "mean(9999, 2) ! 5", "mean(9998, 2) = 1", "mean(MAX, 20) ! 5", "mean(MAX, MAX) ! 5");
        Rows.test(61, "no SESSIONS", Rows.HOUSE, "mean(0, 1) ! 8", "mean(9981, 20) ! 5", "mean(0, 21) ! 5");
        Rows.test(61, "without POWER: 0 by 1", "sessions: minute 1; = 1", "mean(0, 20) = 1", "top() -> 0", "bottom() -> 1");
        Rows.test(61, "all stays as it is", Rows.HOUSE, "sessions: go ann;minute 9;die bob; = 3", "mean(0, 20) = 1", "top() -> 8", "bottom() -> 1", "many(8) = 0", "member(0, 1) = 0", "member(1, 5) ! 8", "bells(1) = 0", "live(0) = 3",
            "many(14) = 8");
        // If b is drawn it is IN then, and c COUNTS 2; if c is, it is at 98 and COUNTS 2 still, and b 1.
        int sum = 0;
        for (int seed = 9980; seed <= 9999; seed++) {
            sum += next(seed) / 8 % 2 == 0 ? 2 : 3;
        }
        int common = java.math.BigInteger.valueOf(sum).gcd(java.math.BigInteger.valueOf(20)).intValue();
        Rows.test(61, "the last twenty seeds", "assembly: party a;member b of a at 9 speed 9;member c of a at 99 speed 1; = 2", "sessions: any;minute 1; = 2", "mean(9980, 20) = 1", "top() -> " + sum / common,
            "bottom() -> " + 20 / common);
        int one = next(0) / 8 % 2 == 0 ? 2 : 3;
        Rows.test(61, "the first seed alone", "assembly: party a;member b of a at 9 speed 9;member c of a at 99 speed 1; = 2", "sessions: any;minute 1; = 2", "mean(0, 1) = 1", "top() -> " + one, "bottom() -> 1");
        Rows.test(61, "SESSIONS without a STEP", Rows.HOUSE, "sessions(0) = 0", "mean(0, 20) = 1", "top() -> 5", "bottom() -> 1");
    }
}
