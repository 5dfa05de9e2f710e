/** Promise 10: which texts are an ASSEMBLY, and the FAULTS of others; what many(), member(), motion(), room() tell then (13 to 16). */
final class AssemblyBounds {
    private static final String MEMBER = "party a;member b of a at 0";
    private static final String[] KEY_WORDS = ("far buried ill bell party member of at speed price dead sick hidden twins motion for against room takes odds minute come "
        + "go stay die fall any when governs carried yards loop end stop").split(" ");

    private AssemblyBounds() {
    }

    static void run() {
        bytes();
        tokens();
        theEnd();
        leastKind();
        nameLengths();
        keyWords();
        takenNames();
        otherNames();
        laws();
        memberNumbers();
        traits();
        twins();
        motions();
        rooms();
        tooMany();
        grammar();
    }

    private static void ok(String title, String text, int members, String... rows) {
        Rows.test(10, title, Rows.join(new String[] {"assembly: " + text + " = " + members}, rows));
    }

    private static void fault(String title, String text, int kind, int place) {
        Rows.test(10, title, "assembly: " + text + " ! " + kind + " @ " + place);
    }

    // Every byte behind a whole PART, and within a NAME's place.
    private static void bytes() {
        for (int b = 0; b < 256; b++) {
            char sign = (char) b;
            boolean isBlank = b == 10 || b == 32;
            boolean isToken = sign >= 'a' && sign <= 'z' || sign >= '0' && sign <= '9' || ";<>=".indexOf(sign) >= 0;
            if (isBlank) {
                ok("byte " + b + " is a blank", "party a;" + sign + sign + "party b;", 0, "many(0) = 2");
                fault("byte " + b + " parts TOKENS", "party a" + sign + "b;", 2, 8);
            } else {
                fault("byte " + b, "party a;" + sign, isToken ? 2 : 1, 8);
                fault("byte " + b + " in front", sign + " party a;", isToken ? 2 : 1, 0);
            }
            boolean isLetter = sign >= 'a' && sign <= 'z';
            if (isLetter) {
                ok("byte " + b + " is a NAME", "party " + sign + ";", 0, "many(0) = 1");
            } else if (!isBlank) {
                fault("byte " + b + " is no NAME", "party " + sign + ";", isToken ? 2 : 1, 6);
            }
        }
    }

    private static void tokens() {
        fault("a WORD is as long as it goes", "partya;", 2, 0);
        fault("a WORD is as long as it goes, within a PART", "party a;member bof a at 0;", 2, 19);
        ok("a WORD ends at a digit", "far30;", 0, "many(4) = 30");
        ok("a NUMBER ends at a letter", "party a;member b of a at 5speed 6price 7dead 8sick;", 1, "member(0, 1) = 5", "member(0, 2) = 6", "member(0, 3) = 7", "member(0, 5) = 8");
        fault("a NAME has no digits", "party a1;", 2, 7);
        fault("two NUMBERS", "far 1 2;", 2, 6);
        ok("a NUMBER of 1 digit", "far 1;", 0, "many(4) = 1");
        ok("a NUMBER of 4 digits", "far 0999;", 0, "many(4) = 999");
        ok("a NUMBER of 4 digits, all 0", "buried 0000;", 0, "many(5) = 0");
        fault("a NUMBER of 4 digits, the greatest", "far 9999;", 4, 4);
        fault("5 digits", "far 00001;", 1, 4);
        fault("5 digits, the greatest", "far 99999;", 1, 4);
        fault("10 digits, more than an int", "far 4294967297;", 1, 4);
        fault("20 digits, more than a long", "far 18446744073709551617;", 1, 4);
        ok("no blank is needed beside SIGNS", "party a;party b;", 0, "many(0) = 2");
        ok("blanks in all places", " \n party \n a \n ; \n party\nb\n;\n", 0, "many(0) = 2");
    }

    private static void theEnd() {
        ok("nothing", "", 0);
        fault("the end is the text's length", "party", 2, 5);
        fault("the end behind blanks", "party  \n ", 2, 9);
        fault("the end in place of ;", "party a", 2, 7);
        fault("the end in place of ; behind a blank", "party a ", 2, 8);
        String whole = MEMBER + " speed 1 price 1 dead 1 sick hidden;";
        for (int n = 9; n < whole.length(); n++) {
            // A key WORD or a NAME that is cut in two is what can't stand there, at its beginning.
            String text = whole.substring(0, n);
            int word = n;
            while (whole.charAt(word - 1) >= 'a' && whole.charAt(word - 1) <= 'z') {
                word--;
            }
            boolean isWhole = whole.charAt(n) < 'a' || whole.charAt(n) > 'z';
            fault("the first " + n + " bytes of a PART", text, 2, isWhole ? n : word);
        }
    }

    private static void leastKind() {
        fault("1 ahead of 2: 5 digits where a NAME must stand", "party 12345;", 1, 6);
        fault("1 ahead of 2: 5 digits where a PART begins", "12345", 1, 0);
        fault("1 ahead of 2: 5 digits where ; must stand", "party a 12345;", 1, 8);
        fault("1 ahead of 4: 5 digits that are too much", "far 10000;", 1, 4);
        fault("2 ahead of 3: a taken NAME where ; must stand", "party a a;", 2, 8);
        fault("2 ahead of 6: not a fifth party but a NUMBER", Rows.many("party #;", 'a', 4) + "5", 2, 32);
        fault("3 ahead of 5: TWINS of no MEMBER", "party a;twins a a;", 3, 14);
        fault("along the text: 2 ahead of a later 1", "party far !", 2, 6);
        fault("along the text: 4 ahead of a later 1", "far 1000 !", 4, 4);
        fault("along the text: 5 ahead of a later 4", "far 1;far 0;", 5, 6);
        fault("along the text: 6 ahead of a later 3", Rows.many("party #;", 'a', 4) + "party a;", 6, 32);
        fault("along the text: 3 ahead of a later 2", "party a;party a", 3, 14);
    }

    private static void nameLengths() {
        String[] heads = {"party #;", "party a;member # of a at 0;", "motion # for against;", "room # takes 1 odds 1;"};
        for (String head : heads) {
            int at = head.indexOf('#');
            int members = head.contains("member") ? 1 : 0;
            ok("a NAME of 1 letter", head.replace("#", "z"), members);
            ok("a NAME of 8 letters", head.replace("#", "zzzzzzzz"), members);
            fault("a NAME of 9 letters", head.replace("#", "zzzzzzzzz"), 2, at);
            fault("a NAME of 13 letters", head.replace("#", "zzzzzzzzzzzzz"), 2, at);
            fault("a NAME of 100 letters", head.replace("#", "z".repeat(100)), 2, at);
        }
        fault("no PARTY's NAME", "party ;", 2, 6);
        fault("no MEMBER's NAME", "party a;member of a at 0;", 2, 15);
        fault("no MOTION's NAME", "motion for against;", 2, 7);
        fault("no ROOM's NAME", "room takes 1 odds 1;", 2, 5);
        ok("NAMES of 8 letters that differ in the first, in the last", "party abcdefgh;party bbcdefgh;party abcdefgi;", 0, "many(0) = 3");
        ok("NAMES that begin alike", "party a;party aa;party aaa;party aaaaaaaa;", 0, "many(0) = 4");
        fault("9 letters, of which 8 are a PARTY", "party abcdefgh;member b of abcdefghi at 0;", 2, 27);
        fault("9 letters among TWINS", MEMBER + ";twins b bbbbbbbbb;", 2, 35);
        fault("9 letters among TWINS, first", MEMBER + ";twins bbbbbbbbb b;", 2, 33);
        fault("9 letters behind for", "party a;motion m for aaaaaaaaa against;", 2, 21);
        fault("9 letters behind against", "party a;motion m for against aaaaaaaaa;", 2, 29);
    }

    private static void keyWords() {
        for (String word : KEY_WORDS) {
            fault(word + " is no PARTY's NAME", "party " + word + ";", 2, 6);
            fault(word + " is no MEMBER's NAME", "party a;member " + word + " of a at 0;", 2, 15);
            fault(word + " is no MOTION's NAME", "motion " + word + " for against;", 2, 7);
            fault(word + " is no ROOM's NAME", "room " + word + " takes 1 odds 1;", 2, 5);
            fault(word + " names no PARTY", "party a;member b of " + word + " at 0;", 2, 20);
            fault(word + " is no TWIN", MEMBER + ";twins " + word + " b;", 2, 33);
            if (word.length() < 8) {
                ok(word + " and a letter is a NAME", "party " + word + "x;", 0, "many(0) = 1");
                ok("a letter and " + word + " is a NAME", "party x" + word + ";", 0, "many(0) = 1");
            }
            String cut = word.substring(0, word.length() - 1);
            if (!java.util.Arrays.asList(KEY_WORDS).contains(cut)) {
                ok(word + " without its last letter is a NAME", "party " + cut + ";", 0, "many(0) = 1");
            }
        }
        for (String word : KEY_WORDS) {
            boolean begins = java.util.Arrays.asList("far", "buried", "ill", "bell", "party", "member", "twins", "motion", "room").contains(word);
            if (!begins) {
                fault(word + " begins no PART", word + " a;", 2, 0);
            }
        }
    }

    private static void takenNames() {
        String there = "party pp;member mm of pp at 0;motion oo for against;room rr takes 1 odds 1;";
        int n = there.length();
        for (String taken : new String[] {"pp", "mm", "oo", "rr"}) {
            fault("a new PARTY's NAME is taken", there + "party " + taken + ";", 3, n + 6);
            fault("a new MEMBER's NAME is taken", there + "member " + taken + " of pp at 0;", 3, n + 7);
            fault("a new MOTION's NAME is taken", there + "motion " + taken + " for against;", 3, n + 7);
            fault("a new ROOM's NAME is taken", there + "room " + taken + " takes 1 odds 1;", 3, n + 5);
        }
        ok("an ASSEMBLY's NAMES are not taken in the next one", there, 1, "assembly: " + there + " = 1");
        Rows.test(10, "nor are those of one with a FAULT", "assembly: party a;member b of a at 0;! ! 1 @ 27", "assembly: party b;member a of b at 0; = 1");
        fault("a MEMBER's own NAME is no PARTY", "member b of b at 0;", 3, 12);
        fault("a MOTION's own NAME is no PARTY", "motion m for m against;", 3, 13);
    }

    private static void otherNames() {
        String there = "party pp;member mm of pp at 0;motion oo for against;room rr takes 1 odds 1;";
        int n = there.length();
        for (String other : new String[] {"mm", "oo", "rr", "no"}) {
            fault(other + " is no PARTY of a MEMBER", there + "member x of " + other + " at 0;", 3, n + 12);
            fault(other + " is no PARTY for", there + "motion x for " + other + " against;", 3, n + 13);
            fault(other + " is no PARTY against", there + "motion x for against " + other + ";", 3, n + 21);
            fault(other + " is no second PARTY", there + "motion x for pp " + other + " against;", 3, n + 16);
        }
        for (String other : new String[] {"pp", "oo", "rr", "no"}) {
            fault(other + " is no MEMBER among TWINS", there + "twins " + other + " mm;", 3, n + 6);
            fault(other + " is no second MEMBER among TWINS", there + "twins mm " + other + ";", 3, n + 9);
        }
        fault("a PARTY told later", "member b of a at 0;party a;", 3, 12);
        fault("a MEMBER told later", MEMBER + ";twins b c;member c of a at 0;", 3, 35);
        fault("a PARTY told later than the MOTION", "motion m for a against;party a;", 3, 13);
    }

    private static void laws() {
        String[] words = {"far", "buried", "ill", "bell"};
        int[] least = {1, 0, 0, 1};
        int[] most = {999, 99, 2, 60};
        int[] without = {50, 9, 1, 10};
        for (int i = 0; i < 4; i++) {
            String w = words[i];
            int at = w.length() + 1;
            ok(w + " at least", w + " " + least[i] + ";", 0, "many(" + (4 + i) + ") = " + least[i]);
            ok(w + " at most", w + " " + most[i] + ";", 0, "many(" + (4 + i) + ") = " + most[i]);
            ok(w + " without", "party a;", 0, "many(" + (4 + i) + ") = " + without[i]);
            fault(w + " above the most", w + " " + (most[i] + 1) + ";", 4, at);
            fault(w + " 9999", w + " 9999;", 4, at);
            if (least[i] > 0) {
                fault(w + " below the least", w + " 0;", 4, at);
            }
            fault(w + " told already", w + " 1;" + w + " 1;", 5, w.length() + 3);
            fault(w + " told already, at that WORD", w + " 1;party a;" + w, 5, w.length() + 11);
            fault(w + " without a NUMBER", w + ";", 2, w.length());
            fault(w + " of a WORD", w + " a;", 2, at);
            fault(w + " without a ;", w + " 1 " + w, 2, at + 2);
            ok(w + " behind all else", Rows.FULL_TEXT + w + " 1;", 10, "many(" + (4 + i) + ") = 1");
        }
        ok("all four, each once, in any order", "bell 60;ill 2;buried 99;far 999;", 0, "many(4) = 999", "many(5) = 99", "many(6) = 2", "many(7) = 60");
        Rows.test(10, "told once in each text", "assembly: far 7; = 0", "assembly: far 8; = 0", "many(4) = 8", "assembly: far 9;far 9; ! 5 @ 6", "assembly: far 3; = 0", "many(4) = 3");
    }

    private static void memberNumbers() {
        String[] words = {"speed", "price", "dead"};
        int[] least = {1, 0, 0};
        int[] what = {2, 3, 5};
        for (int i = 0; i < 3; i++) {
            String text = MEMBER + " " + words[i] + " ";
            ok(words[i] + " at least", text + least[i] + ";", 1, "member(0, " + what[i] + ") = " + least[i]);
            ok(words[i] + " at most", text + "99;", 1, "member(0, " + what[i] + ") = 99");
            fault(words[i] + " above the most", text + "100;", 4, text.length());
            if (least[i] > 0) {
                fault(words[i] + " below the least", text + "0;", 4, text.length());
            }
            fault(words[i] + " without a NUMBER", text + ";", 2, text.length());
            fault(words[i] + " twice", text + "1 " + words[i] + " 1;", 2, text.length() + 2);
        }
        ok("without", MEMBER + ";", 1, "member(0, 2) = 5", "member(0, 3) = 10", "member(0, 5) ! 8", "member(0, 6) = 0", "member(0, 7) = 0", "member(0, 8) ! 8", "member(0, 4) = 0");
        ok("0 YARDS", "party a;member b of a at 0;", 1, "member(0, 1) = 0", "many(9) = 1");
        ok("1 YARD", "party a;member b of a at 1;", 1, "member(0, 1) = 1", "many(9) = 0");
        ok("999 YARDS", "party a;member b of a at 999;", 1, "member(0, 1) = 999");
        fault("1000 YARDS", "party a;member b of a at 1000;", 4, 25);
        fault("no YARDS", "party a;member b of a at;", 2, 24);
    }

    private static void traits() {
        String[] parts = {" speed 7", " price 8", " dead 9", " sick", " hidden"};
        for (int set = 0; set < 32; set++) {
            StringBuilder text = new StringBuilder(MEMBER);
            for (int i = 0; i < 5; i++) {
                text.append((set >> i & 1) == 1 ? parts[i] : "");
            }
            ok("each of the five, or not: " + set, text + ";", 1, "member(0, 2) = " + ((set & 1) != 0 ? 7 : 5), "member(0, 3) = " + ((set & 2) != 0 ? 8 : 10),
                (set & 4) != 0 ? "member(0, 5) = 9" : "member(0, 5) ! 8", "member(0, 6) = " + (set >> 3 & 1), "member(0, 7) = " + (set >> 4));
        }
        for (int i = 0; i < 5; i++) {
            for (int j = 0; j <= i; j++) {
                fault("in this order alone, each once", MEMBER + parts[i] + parts[j] + ";", 2, (MEMBER + parts[i]).length() + 1);
            }
        }
        Rows.test(10, "nothing stays of the MEMBER ahead", "assembly: " + MEMBER + " speed 99 price 99 dead 99 sick hidden; = 1", "assembly: " + MEMBER + ";member c of a at 1; = 2",
            "member(0, 2) = 5", "member(0, 3) = 10", "member(0, 5) ! 8", "member(0, 6) = 0", "member(0, 7) = 0");
    }

    private static void twins() {
        String two = "party a;" + Rows.many("member # of a at 0;", 'b', 10);
        int n = two.length();
        ok("five pairs, the most", two + "twins b c;twins e d;twins f k;twins g j;twins i h;", 10, "member(0, 8) = 1", "member(1, 8) = 0", "member(2, 8) = 3", "member(3, 8) = 2",
            "member(4, 8) = 9", "member(9, 8) = 4", "member(5, 8) = 8", "member(8, 8) = 5", "member(7, 8) = 6", "member(6, 8) = 7");
        fault("one and itself", two + "twins b b;", 5, n + 8);
        fault("the first has one", two + "twins b c;twins b d;", 5, n + 16);
        fault("the first has one as the second", two + "twins b c;twins c d;", 5, n + 16);
        fault("the second has one", two + "twins b c;twins d b;", 5, n + 18);
        fault("the same again", two + "twins b c;twins b c;", 5, n + 16);
        fault("the same the other way round", two + "twins b c;twins c b;", 5, n + 16);
        fault("one alone", two + "twins b;", 2, n + 7);
        fault("none", two + "twins;", 2, n + 5);
        fault("three", two + "twins b c d;", 2, n + 10);
        Rows.test(10, "a TWIN in a text with a FAULT is none in the next", "assembly: " + two + "twins b c;! ! 1 @ " + (n + 10), "assembly: " + two + "twins b d; = 10", "member(0, 8) = 2",
            "member(1, 8) ! 8");
    }

    private static void motions() {
        String four = Rows.many("party #;", 'a', 4);
        int n = four.length();
        ok("none FOR, none AGAINST", four + "motion m for against;", 0, "motion(0, 0) = 0", "motion(0, 1) = 0");
        ok("all FOR", four + "motion m for a b c d against;", 0, "motion(0, 0) = 15", "motion(0, 1) = 0");
        ok("all AGAINST", four + "motion m for against d c b a;", 0, "motion(0, 0) = 0", "motion(0, 1) = 15");
        ok("all, in halves", four + "motion m for d a against c b;", 0, "motion(0, 0) = 9", "motion(0, 1) = 6");
        fault("twice FOR", four + "motion m for a a against;", 5, n + 15);
        fault("twice AGAINST", four + "motion m for against d d;", 5, n + 23);
        fault("FOR and AGAINST", four + "motion m for a against a;", 5, n + 23);
        fault("a fifth FOR", four + "motion m for a b c d a against;", 5, n + 21);
        fault("a fifth AGAINST", four + "motion m for against a b c d d;", 5, n + 29);
        fault("a fifth, all FOR being told", four + "motion m for a b c d against d;", 5, n + 29);
        fault("a PARTY that is none as the fifth", four + "motion m for a b c d e against;", 3, n + 21);
        fault("no for", four + "motion m against a;", 2, n + 9);
        fault("no against", four + "motion m for a;", 2, n + 14);
        fault("against twice", four + "motion m for against against;", 2, n + 21);
        fault("a NUMBER", four + "motion m for 1 against;", 2, n + 13);
        ok("a PARTY may be in all MOTIONS", four + Rows.many("motion # for a against b;", 'o', 5), 0, "motion(0, 0) = 1", "motion(4, 0) = 1", "motion(4, 1) = 2");
        Rows.test(10, "a set in a text with a FAULT is none in the next", "assembly: " + four + "motion m for a b c d against a; ! 5 @ " + (n + 29), "assembly: " + four
            + "motion m for against a; = 0", "motion(0, 0) = 0", "motion(0, 1) = 1");
    }

    private static void rooms() {
        ok("takes at least", "room r takes 1 odds 0;", 0, "room(0, 0) = 1", "room(0, 1) = 0");
        ok("takes at most", "room r takes 60 odds 16;", 0, "room(0, 0) = 60", "room(0, 1) = 16");
        fault("takes 0", "room r takes 0 odds 1;", 4, 13);
        fault("takes 61", "room r takes 61 odds 1;", 4, 13);
        fault("odds 17", "room r takes 1 odds 17;", 4, 20);
        fault("no takes", "room r odds 1;", 2, 7);
        fault("no odds", "room r takes 1;", 2, 14);
        fault("odds ahead", "room r odds 1 takes 1;", 2, 7);
        fault("takes without a NUMBER", "room r takes odds 1;", 2, 13);
        fault("odds without a NUMBER", "room r takes 1 odds;", 2, 19);
    }

    private static void tooMany() {
        String[] parts = {"party #;", "member # of p at 0;", "motion # for against;", "room # takes 1 odds 1;"};
        int[] most = {4, 10, 5, 6};
        for (int i = 0; i < 4; i++) {
            String head = i == 1 ? "party p;" : "";
            String full = head + Rows.many(parts[i], 'a', most[i]);
            ok("the most", full, i == 1 ? 10 : 0, "many(" + i + ") = " + most[i]);
            ok("one fewer", head + Rows.many(parts[i], 'a', most[i] - 1), i == 1 ? 9 : 0, "many(" + i + ") = " + (most[i] - 1));
            String word = parts[i].substring(0, parts[i].indexOf(' '));
            fault("one more", full + parts[i].replace('#', 'z'), 6, full.length());
            fault("one more, at that WORD, whatever is behind it", full + "\n " + word, 6, full.length() + 2);
            fault("one more and no NAME", full + word + " far", 6, full.length());
        }
        ok("all at their most", Rows.FULL_TEXT, 10, "many(0) = 4", "many(1) = 10", "many(2) = 5", "many(3) = 6");
        for (String part : new String[] {"party z;", "member z of a at 0;", "motion z for against;", "room z takes 1 odds 1;"}) {
            fault("all at their most, and one more", Rows.FULL_TEXT + part, 6, Rows.FULL_TEXT.length());
        }
        ok("numbered as they stand", "room r takes 3 odds 1;party b;motion n for against b;member d of b at 3;party a;member c of a at 4;room q takes 2 odds 1;motion m for a against;", 2,
            "member(0, 0) = 0", "member(0, 1) = 3", "member(1, 0) = 1", "member(1, 1) = 4", "motion(0, 1) = 1", "motion(1, 0) = 2", "room(0, 0) = 3", "room(1, 0) = 2");
    }

    private static void grammar() {
        fault("no of", "party a;member b at 0;", 2, 17);
        fault("no at", "party a;member b of a 0;", 2, 22);
        fault("no ;", MEMBER + " member c of a at 0;", 2, 27);
        fault("; twice", "party a;;", 2, 8);
        fault("< in place of ;", "party a<", 2, 7);
        fault("> in place of ;", "far 1>", 2, 5);
        fault("= in place of ;", "room r takes 1 odds 1=", 2, 21);
        fault("a STEP in an ASSEMBLY", "any;", 2, 0);
    }
}
