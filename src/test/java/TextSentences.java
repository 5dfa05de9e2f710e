/** 'Terms', '==== 1.': TRAYS, and the text of an ASSEMBLY. */
final class TextSentences {
    private static final String[] KEY_WORDS = ("far, buried, ill, bell, party, member, of, at, speed, price, dead, sick, hidden, twins, motion, for, against, "
        + "room, takes, odds, minute, come, go, stay, die, fall, any, when, governs, carried, yards, loop, end, stop").split(", ");
    private static final String MEMBER = "party a;member b of a at 7";
    private static final String TWO = "party a;member b of a at 0;member c of a at 0;";

    private TextSentences() {
    }

    static void run() {
        Document.names("## Terms");
        trays();
        Document.names("```text");
        tokens();
        laws();
        parts();
        names();
        lawNumbers();
        members();
        others();
        faults();
        laterFaults();
        taken();
        Document.names("```");
    }

    private static String ok(String text, int members) {
        return "assembly: " + text + " = " + members;
    }

    /** A FAULT of this kind so many bytes behind the text's first part. */
    private static String fault(String ahead, String behind, int kind, int place) {
        return "assembly: " + ahead + behind + " ! " + kind + " @ " + (ahead.length() + place);
    }

    private static String fault(String text, int kind, int place) {
        return fault("", text, kind, place);
    }

    private static void trays() {
        Document.says("TRAYS, 0 to 3, are MISSING at first,");
        Document.test("four", "read(0, 0) ! 3", "read(1, 0) ! 3", "read(2, 0) ! 3", "read(3, 0) ! 3", "read(4, 0) ! 1", "read(-1, 0) ! 1");
        Document.says("or rows of numbers of 8 bits (sort 0), 16 (1), 32 (2) or 64 (3), with sign; what is written is cut to these.");
        Document.test("8 bits", "tray(0, 0, 1) = 1", "write(0, 0, 127) = 1", "read(0, 0) = 127", "write(0, 0, -128) = 1", "read(0, 0) = -128", "write(0, 0, 128) = 1",
            "read(0, 0) = -128", "write(0, 0, -129) = 1", "read(0, 0) = 127", "write(0, 0, 261) = 1", "read(0, 0) = 5");
        Document.test("16 bits", "tray(1, 1, 1) = 1", "write(1, 0, 32767) = 1", "read(1, 0) = 32767", "write(1, 0, -32768) = 1", "read(1, 0) = -32768",
            "write(1, 0, 32768) = 1", "read(1, 0) = -32768", "write(1, 0, 65541) = 1", "read(1, 0) = 5");
        Document.test("32 bits", "tray(2, 2, 1) = 1", "write(2, 0, MAX) = 1", "read(2, 0) = MAX", "write(2, 0, MIN) = 1", "read(2, 0) = MIN",
            "write(2, 0, 2147483648) = 1", "read(2, 0) = MIN", "write(2, 0, 4294967301) = 1", "read(2, 0) = 5");
        Document.test("64 bits", "tray(3, 3, 1) = 1", "write(3, 0, GREATEST) = 1", "read(3, 0) = GREATEST", "write(3, 0, LEAST) = 1", "read(3, 0) = LEAST");
        Document.test("no other sort", "tray(0, 4, 1) ! 1", "tray(0, -1, 1) ! 1");
    }

    private static void tokens() {
        Document.says("An ASSEMBLY is a TEXT of at most 900 bytes.");
        Document.test("900 bytes, and no 901st", "tape: " + " ".repeat(892) + "party a;", "feed(0, 0, 0, 0, 0) -> -1", "assembly(901) ! 5", "assembly(900) = 0", "many(0) = 1");
        Document.says("TOKENS, as long as they go, between them blanks (10, 32):");
        Document.test("as long as they go", fault("partya;", 2, 0), fault("party a;partyparty;", 2, 8), ok("party ab;", 0), fault("party a b;", 2, 8), fault("far 1 2;", 2, 6));
        Document.test("any number of blanks", ok("\n party\n\na  ;\n", 0), "many(0) = 1");
        Document.test("9, 13 are none", fault("party\ta;", 1, 5), fault("party a;\r", 1, 8));
        Document.says("WORDS (small letters),");
        Document.test("from a to z", ok("party az;", 0), fault("party aZ;", 1, 7), fault("party `;", 1, 6), fault("party {;", 1, 6), fault("party A;", 1, 6));
        Document.says("NUMBERS (1 to 4 digits),");
        Document.test("1 to 4", ok("far 9;", 0), "many(4) = 9", ok("far 19;", 0), "many(4) = 19", ok("far 019;", 0), "many(4) = 19", ok("far 0190;", 0), "many(4) = 190",
            fault("far 00190;", 1, 4), fault("far -1;", 1, 4));
        Document.says("SIGNS ; < > =");
        Document.test("TOKENS that can't stand there", fault(";", 2, 0), fault("<", 2, 0), fault(">", 2, 0), fault("=", 2, 0));
        Document.test("their neighbours are none", fault(":", 1, 0), fault("?", 1, 0), fault(",", 1, 0));
        Document.says("ASSEMBLY: {PART}.");
        Document.test("none, one, several", ok("", 0), "many(0) = 0", ok("far 3;", 0), "many(4) = 3", ok("party a;ill 2;far 3;", 0), "many(0) = 1", "many(6) = 2", "many(4) = 3");
        Document.test("nothing besides", fault("a;", 2, 0), fault("of;", 2, 0), fault("1;", 2, 0), fault("minute 1;", 2, 0));
    }

    private static void laws() {
        String[] words = {"far", "buried", "ill", "bell"};
        for (int i = 0; i < 4; i++) {
            String w = words[i];
            int n = w.length();
            Document.says((i == 0 ? "PART: " : "or ") + w + " NUMBER ;");
            Document.test("as it is told", ok(w + " 2;", 0), "many(" + (4 + i) + ") = 2", ok(w + " 1;", 0), "many(" + (4 + i) + ") = 1");
            Document.test("nothing left out", fault(w + ";", 2, n), fault(w + " a;", 2, n + 1), fault(w + " 1", 2, n + 2), fault(w + " 1 a", 2, n + 3));
        }
    }

    private static void parts() {
        Document.says("or party NAME ;");
        Document.test("as it is told", ok("party a;", 0), "many(0) = 1");
        Document.test("nothing left out", fault("party;", 2, 5), fault("party 1;", 2, 6), fault("party a", 2, 7), fault("party a b;", 2, 8));
        Document.says("or member NAME of NAME at NUMBER [speed NUMBER] [price NUMBER] [dead NUMBER] [sick] [hidden] ;");
        Document.test("all of it", ok(MEMBER + " speed 6 price 5 dead 4 sick hidden;", 1), "member(0, 0) = 0", "member(0, 1) = 7", "member(0, 2) = 6", "member(0, 3) = 5",
            "member(0, 5) = 4", "member(0, 6) = 1", "member(0, 7) = 1");
        Document.test("nothing left out", fault("party a;member", ";", 2, 0), fault("party a;member b", ";", 2, 0), fault("party a;member b of", ";", 2, 0),
            fault("party a;member b of a", ";", 2, 0), fault("party a;member b of a at", ";", 2, 0), fault(MEMBER, "", 2, 0), fault(MEMBER + " speed", ";", 2, 0),
            fault(MEMBER + " price", ";", 2, 0), fault(MEMBER + " dead", ";", 2, 0), fault(MEMBER + " sick", "", 2, 0), fault(MEMBER + " hidden", "", 2, 0));
        Document.test("in this order", fault(MEMBER + " price 5 ", "speed 6;", 2, 0), fault(MEMBER + " dead 4 ", "price 5;", 2, 0), fault(MEMBER + " sick ", "dead 4;", 2, 0),
            fault(MEMBER + " hidden ", "sick;", 2, 0), fault("party a;member b ", "at 7 of a;", 2, 0));
        Document.says("or twins NAME NAME ;");
        Document.test("as it is told", ok(TWO + "twins c b;", 2), "member(0, 8) = 1", "member(1, 8) = 0");
        Document.test("nothing left out", fault(TWO, "twins;", 2, 5), fault(TWO, "twins b;", 2, 7), fault(TWO, "twins b c", 2, 9), fault(TWO, "twins b c b;", 2, 10));
        Document.says("or motion NAME for {NAME} against {NAME} ;");
        Document.test("as it is told", ok("party a;party b;motion m for b against a;", 0), "many(2) = 1", "motion(0, 0) = 2", "motion(0, 1) = 1");
        Document.test("nothing left out", fault("party a;", "motion;", 2, 6), fault("party a;", "motion m;", 2, 8), fault("party a;", "motion m for a;", 2, 14),
            fault("party a;", "motion m against a;", 2, 9), fault("party a;", "motion m for against a", 2, 22));
        Document.says("or room NAME takes NUMBER odds NUMBER ;");
        Document.test("as it is told", ok("room r takes 6 odds 5;", 0), "many(3) = 1", "room(0, 0) = 6", "room(0, 1) = 5");
        Document.test("nothing left out", fault("room;", 2, 4), fault("room r;", 2, 6), fault("room r takes;", 2, 12), fault("room r takes 6;", 2, 14),
            fault("room r takes 6 odds;", 2, 19), fault("room r takes 6 odds 5", 2, 21), fault("room r odds 5 takes 6;", 2, 7));
        Document.says("({ } any number of times, [ ] perhaps.)");
        Document.test("PARTIES of a MOTION", ok("party a;party b;party c;motion m for against;motion n for a b c against;motion o for b against c a;", 0), "motion(0, 0) = 0",
            "motion(0, 1) = 0", "motion(1, 0) = 7", "motion(1, 1) = 0", "motion(2, 0) = 2", "motion(2, 1) = 5");
        Document.test("each alone, none", ok("party a;member b of a at 1;member c of a at 1 speed 2;member d of a at 1 price 2;member e of a at 1 dead 2;member f of a at 1 sick;"
            + "member g of a at 1 hidden;", 6), "member(1, 2) = 2", "member(2, 3) = 2", "member(3, 5) = 2", "member(4, 6) = 1", "member(5, 7) = 1", "member(0, 6) = 0", "member(0, 7) = 0");
    }

    private static void names() {
        Document.says("NAME: a WORD of 1 to 8 letters that is none of " + String.join(", ", KEY_WORDS) + ".");
        Document.test("1 to 8 letters", ok("party a;party abcdefgh;", 0), "many(0) = 2", fault("party abcdefghi;", 2, 6), fault("party ;", 2, 6));
        for (String word : KEY_WORDS) {
            Document.test(word, fault("party " + word + ";", 2, 6), ok("party x" + word + ";", 0));
        }
        Document.says("One NAME is of one thing alone.");
        String all = "party a;member b of a at 0;motion c for against;room d takes 1 odds 1;";
        for (String name : new String[] {"a", "b", "c", "d"}) {
            Document.test(name + " is taken", fault(all, "party " + name + ";", 3, 6), fault(all, "member " + name + " of a at 0;", 3, 7),
                fault(all, "motion " + name + " for against;", 3, 7), fault(all, "room " + name + " takes 1 odds 1;", 3, 5));
        }
    }

    private static void lawNumber(String words, String word, int what, int[] leastMostWithout) {
        String many = "many(" + what + ") = ";
        int least = leastMostWithout[0];
        int most = leastMostWithout[1];
        Document.says(words);
        Document.test("the least, the most, without", ok(word + " " + least + ";", 0), many + least, ok(word + " " + most + ";", 0), many + most, ok("party a;", 0),
            many + leastMostWithout[2]);
        Document.test("one more", fault(word + " " + (most + 1) + ";", 4, word.length() + 1));
        if (least > 0) {
            Document.test("one fewer", fault(word + " " + (least - 1) + ";", 4, word.length() + 1));
        }
    }

    private static void lawNumbers() {
        lawNumber("LAW: FAR (1 to 999 YARDS; 50 without),", "far", 4, new int[] {1, 999, 50});
        lawNumber("BURIED (0 to 99 YEARS; 9 without),", "buried", 5, new int[] {0, 99, 9});
        lawNumber("ILL (0 to 2; 1 without).", "ill", 6, new int[] {0, 2, 1});
        lawNumber("BELL (1 to 60 MINUTES; 10 without).", "bell", 7, new int[] {1, 60, 10});
    }

    /** A NUMBER of a MEMBER from the least to the most; without is what stands where it is not told. */
    private static void memberNumber(String words, String word, int what, int least, int most, String without) {
        String head = "party a;member b of a at 7 " + word + " ";
        Document.says(words);
        Document.test("the least, the most, without", ok(head + least + ";", 1), "member(0, " + what + ") = " + least, ok(head + most + ";", 1),
            "member(0, " + what + ") = " + most, ok(MEMBER + ";", 1), "member(0, " + what + ") " + without);
        Document.test("one more", fault(head, (most + 1) + ";", 4, 0));
        if (least > 0) {
            Document.test("one fewer", fault(head, (least - 1) + ";", 4, 0));
        }
    }

    private static void members() {
        Document.says("PARTIES, at most 4.");
        Document.test("4, and no fifth", ok(Rows.many("party #;", 'a', 4), 0), "many(0) = 4", fault(Rows.many("party #;", 'a', 4), "party e;", 6, 0), "many(0) = 4");
        Document.says("MEMBERS, at most 10: of a PARTY,");
        Document.test("10, and no 11th", ok("party a;" + Rows.many("member # of a at 0;", 'b', 10), 10), "many(1) = 10",
            fault("party a;" + Rows.many("member # of a at 0;", 'b', 10), "member z of a at 0;", 6, 0));
        Document.test("which PARTY", ok("party a;party b;party c;member d of c at 0;member e of a at 0;member f of b at 0;", 3), "member(0, 0) = 2", "member(1, 0) = 0",
            "member(2, 0) = 1");
        Document.says("AT so many YARDS from the door (0 to 999; 0: IN),");
        Document.test("the least, the most", ok("party a;member b of a at 0;member c of a at 1;member d of a at 999;", 3), "member(0, 1) = 0", "member(1, 1) = 1",
            "member(2, 1) = 999", "many(9) = 1", fault("party a;member b of a at ", "1000;", 4, 0));
        memberNumber("SPEED (1 to 99 YARDS a MINUTE; 5 without),", "speed", 2, 1, 99, "= 5");
        Document.test("YARDS a MINUTE", ok("party a;member b of a at 7 speed 99;member c of a at 7;", 2), "walk(0, 2) = 1", "walk(1, 2) = 1", "minute(1) = 0",
            "member(0, 1) = 106", "member(1, 1) = 12");
        memberNumber("PRICE (0 to 99; 10 without),", "price", 3, 0, 99, "= 10");
        memberNumber("DEAD for so many YEARS (0 to 99; living without),", "dead", 5, 0, 99, "! 8");
        Document.says("SICK, its chair HIDDEN.");
        Document.test("either, both", ok("party a;member b of a at 1 sick;member c of a at 1 hidden;member d of a at 1 sick hidden;", 3), "member(0, 6) = 1", "member(0, 7) = 0",
            "member(1, 6) = 0", "member(1, 7) = 1", "member(2, 6) = 1", "member(2, 7) = 1", "many(11) = 5");
    }

    private static void others() {
        Document.says("TWINS: two MEMBERS.");
        Document.test("each is the other's", ok(TWO + "member d of a at 0;twins d b;", 3), "member(0, 8) = 2", "member(2, 8) = 0", "member(1, 8) ! 8");
        Document.says("MOTIONS, at most 5: PARTIES that are FOR it, and AGAINST it (none is both).");
        String five = Rows.many("motion # for against;", 'm', 5);
        Document.test("5, and no sixth", ok(five, 0), "many(2) = 5", fault(five, "motion z for against;", 6, 0));
        Document.test("none is both", ok("party a;party b;motion m for a against b;", 0), "motion(0, 0) = 1", "motion(0, 1) = 2", fault("party a;motion m for a against ", "a;", 5, 0));
        Document.says("ROOMS, at most 6: it TAKES so many MINUTES (1 to 60) to look there, ODDS (0 to 16).");
        String six = Rows.many("room # takes 1 odds 0;", 'r', 6);
        Document.test("6, and no seventh", ok(six, 0), "many(3) = 6", fault(six, "room z takes 1 odds 0;", 6, 0));
        Document.test("the least, the most", ok("room r takes 1 odds 0;room s takes 60 odds 16;", 0), "room(0, 0) = 1", "room(0, 1) = 0", "room(1, 0) = 60", "room(1, 1) = 16",
            fault("room r takes ", "0 odds 0;", 4, 0), fault("room r takes ", "61 odds 0;", 4, 0), fault("room r takes 1 odds ", "17;", 4, 0));
        Document.says("All are numbered as they stand;");
        Document.test("from 0 on", ok("party z;party y;member x of y at 3;member w of z at 4;motion v for z against;motion u for y against;room t takes 5 odds 1;room s takes 6 odds 2;", 2),
            "member(0, 1) = 3", "member(0, 0) = 1", "member(1, 1) = 4", "member(1, 0) = 0", "motion(0, 0) = 1", "motion(1, 0) = 2", "room(0, 0) = 5", "room(1, 0) = 6");
        Document.says("what a PART names must be told ahead.");
        Document.test("not behind it", fault("member b of a at 0;party a;", 3, 12), fault("party a;member b of a at 0;twins b ", "c;member c of a at 0;", 3, 0),
            fault("motion m for a against;party a;", 3, 13));
        Document.says("All MEMBERS STAY at first.");
        Document.test("the first, the last", ok("party a;" + Rows.many("member # of a at 9;", 'b', 10), 10), "member(0, 4) = 0", "member(9, 4) = 0", "minute(9) = 0", "member(0, 1) = 9",
            "member(9, 1) = 9");
    }

    private static void faults() {
        Document.says("FAULTS, the first along the text (of one TOKEN the least kind):");
        Document.test("the first along the text", fault("far 0;party far;!", 4, 4), fault("party far;far 0;!", 2, 6), fault("!party far;far 0;", 1, 0), fault("far 1;far 0;", 5, 6),
            fault(Rows.many("party #;", 'a', 4), "party a;", 6, 0));
        Document.test("of one TOKEN the least kind", fault("party 12345;", 1, 6), fault("far 12345;", 1, 4), fault(Rows.many("party #;", 'a', 4), "far party;", 2, 4),
            fault("party a;twins ", "a a;", 3, 0), fault("far 1;far far;", 5, 6), fault("far far 1;", 2, 4));
        Document.says("1 no TOKEN begins so (a NUMBER of 5 digits and more: at its first).");
        for (String sign : new String[] {"A", "Z", "_", "-", "!", "\t", "\u0000", "\u007f", "\u0080", "\u00e9", "\u00ff"}) {
            Document.test("byte " + (int) sign.charAt(0), fault(sign, 1, 0), fault("party a;", sign, 1, 0), fault("party ", sign + ";", 1, 0));
        }
        Document.test("5 digits and more, at its first", fault("far ", "10000;", 1, 0), fault("far ", "000000000001;", 1, 0), fault("99999", 1, 0));
        Document.says("2 it can't stand there (the end: the text's length; a WORD of 9 letters and more where a NAME must stand).");
        Document.test("a TOKEN", fault("party a party", 2, 8), fault("far far;", 2, 4), fault("5;", 2, 0));
        Document.test("the end: the text's length", fault("party", 2, 5), fault("party  ", 2, 7), fault("party a\n\n", 2, 9));
        Document.test("9 letters and more", fault("party abcdefghi;", 2, 6), fault("party abcdefgh;member b of ", "abcdefghi at 0;", 2, 0), fault(TWO + "twins b ", "cccccccccc;", 2, 0),
            fault("party a;motion m for ", "aaaaaaaaa against;", 2, 0));
    }

    private static void laterFaults() {
        Document.says("3 a new NAME that is taken; a NAME that is no such one told ahead.");
        Document.test("taken", fault("party a;party ", "a;", 3, 0), fault("party a;room ", "a takes 1 odds 1;", 3, 0));
        Document.test("no such one", fault("party a;member b of ", "c at 0;", 3, 0), fault(TWO + "member d of ", "b at 0;", 3, 0), fault(TWO + "twins ", "a b;", 3, 0),
            fault(TWO + "twins b ", "d;", 3, 0), fault(TWO + "motion m for ", "b against;", 3, 0), fault(TWO + "motion m for against ", "m;", 3, 0));
        Document.says("4 a NUMBER that can't be.");
        Document.test("at it", fault("far ", "0;", 4, 0), fault("far ", "1000;", 4, 0), fault("buried ", "100;", 4, 0), fault("ill ", "3;", 4, 0), fault("bell ", "0;", 4, 0),
            fault("bell ", "61;", 4, 0), fault("party a;member b of a at ", "1000;", 4, 0), fault(MEMBER + " speed ", "0;", 4, 0), fault(MEMBER + " speed ", "100;", 4, 0),
            fault(MEMBER + " price ", "100;", 4, 0), fault(MEMBER + " dead ", "100;", 4, 0), fault("room r takes ", "0;", 4, 0), fault("room r takes ", "61;", 4, 0),
            fault("room r takes 1 odds ", "17;", 4, 0));
        Document.says("5 far, buried, ill, bell told already (at that WORD);");
        Document.test("at that WORD", fault("far 1; ", "far 2;", 5, 0), fault("buried 1; ", "buried 1;", 5, 0), fault("ill 1; ", "ill", 5, 0), fault("bell 1;far 1;ill 1;", "bell 5;", 5, 0));
        Document.says("a MEMBER that has a TWIN, or TWINS of one and itself;");
        Document.test("the first, the second, itself", fault(TWO + "member d of a at 0;twins b c;twins ", "c d;", 5, 0), fault(TWO + "member d of a at 0;twins b c;twins d ", "b;", 5, 0),
            fault(TWO + "twins b ", "b;", 5, 0));
        Document.says("a PARTY twice in a MOTION (at that NAME).");
        Document.test("FOR, AGAINST, both", fault("party a;party b;motion m for a b ", "a against;", 5, 0), fault("party a;party b;motion m for against b a ", "b;", 5, 0),
            fault("party a;party b;motion m for b against a ", "b;", 5, 0));
        Document.test("a fifth NAME", fault(Rows.many("party #;", 'a', 4) + "motion m for d c b a ", "c against;", 5, 0), fault(Rows.many("party #;", 'a', 4) + "motion m for against a b c d ", "d;", 5, 0));
        Document.says("6 a fifth party, an 11th member, a sixth motion, a seventh room (at that WORD).");
        Document.test("at that WORD", fault(Rows.many("party #;", 'a', 4) + " ", "party", 6, 0), fault("party a;" + Rows.many("member # of a at 0;", 'b', 10) + " ", "member", 6, 0),
            fault(Rows.many("motion # for against;", 'a', 5) + " ", "motion", 6, 0), fault(Rows.many("room # takes 1 odds 1;", 'a', 6) + " ", "room", 6, 0));
        Document.test("others may come behind", ok(Rows.FULL_TEXT + "far 1;twins e f;", 10));
    }

    private static void taken() {
        Document.says("An ASSEMBLY that is taken is there in place of that ahead;");
        Document.test("nothing of the old one", Rows.HOUSE, ok("party a;", 0), "many(0) = 1", "many(1) = 0", "many(2) = 0", "many(3) = 0", "many(4) = 50", "many(5) = 9", "many(6) = 1",
            "many(7) = 10", ok("party red;member ann of red at 5;", 1), "member(0, 1) = 5", "member(0, 8) ! 8");
        Document.says("it is MINUTE 0, no BELL has rung, there are no SESSIONS.");
        Document.test("though there was all of this", Rows.HOUSE, "sessions: any; = 1", "minute(8) = 1", "rule(0, 999) = 1", "bells(1) = 2", Rows.HOUSE, "many(8) = 0", "bells(0) = 0",
            "bells(1) = 0", "bells(2) = 0", "many(15) = 0", "live(0) ! 8", "mean(0, 1) ! 8");
        Document.test("though mean() LIVED the SESSIONS", Rows.HOUSE, "sessions: go bob;minute 60;die ann;fall cid; = 4", "mean(0, 3) = 1", Rows.HOUSE, "live(0) ! 8", "many(8) = 0", "bells(0) = 0", "bells(1) = 0",
            "bells(2) = 0", "many(15) = 0", "member(1, 4) = 0", "member(1, 1) = 40", "many(10) = 8", "many(11) = 16");
        Document.test("BELLS for nobody, too", ok("bell 1;party a;", 0), "minute(5) = -1", "many(15) = 5", ok("party a;", 0), "many(15) = 0", "many(8) = 0");
    }
}
