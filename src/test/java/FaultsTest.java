/** Promises 10 to 12: FAULTS, their kinds and places. */
public final class FaultsTest {
    public static void main(String[] args) {
        noTokens();
        cannotStand();
        names();
        numbers();
        twice();
        tooMany();
        least();
        sessionsStand();
        sessionsNames();
        sessionsNumbers();
        sessionsDeep();
        Check.end();
    }

    private static void noTokens() {
        Check c = new Check();
        c.fault("far 30; ! ", 1, 8);
        c.fault("Far 30;", 1, 0);
        c.fault("far 12345;", 1, 4);
        c.fault("far 00001;", 1, 4);
        c.fault("12345", 1, 0);
        c.fault("far 30\t;", 1, 6);
        c.fault("party \u00e9;", 1, 6);
        c.fault("party ab\u0000;", 1, 8);
        c.fault("party a,", 1, 7);
        c.fault("far -1;", 1, 4);
    }

    private static void cannotStand() {
        Check c = new Check();
        c.fault("far", 2, 3);
        c.fault("far  ", 2, 5);
        c.fault("far 30", 2, 6);
        c.fault("far ;", 2, 4);
        c.fault("far x;", 2, 4);
        c.fault("far 30 40;", 2, 7);
        c.fault("red;", 2, 0);
        c.fault(";", 2, 0);
        c.fault("7", 2, 0);
        c.fault("minute 5;", 2, 0);
        c.fault("party far;", 2, 6);
        c.fault("party stop;", 2, 6);
        c.fault("party abcdefghi;", 2, 6);
        c.fault("party 5;", 2, 6);
        c.fault("party a<", 2, 7);
        c.fault("party a;member b of abcdefghi at 0;", 2, 20);
        c.fault("party a;member b a at 0;", 2, 17);
        c.fault("party a;member b of a 5;", 2, 22);
        c.fault("party a;member b of a at 0 price 5 speed 5;", 2, 35);
        c.fault("party a;member b of a at 0 hidden sick;", 2, 34);
        c.fault("party a;member b of a at 0 dead sick;", 2, 32);
        c.fault("party a;member b of a at 0;twins b;", 2, 34);
        c.fault("party a;motion m for a;", 2, 22);
        c.fault("party a;motion m against a;", 2, 17);
        c.fault("party a;motion m for abcdefghi against;", 2, 21);
        c.fault("party a;motion m for far against;", 2, 21);
        c.fault("room r takes 5;", 2, 14);
        c.fault("room r odds 5;", 2, 7);
        for (String word : Model.RESERVED) {
            c.fault("party " + word + ";", 2, 6);
        }
        Check.same("reserved words", Model.RESERVED.size(), 34);
    }

    private static void names() {
        Check c = new Check();
        String p = "party a;";
        c.fault("party a;party a;", 3, 14);
        c.fault(p + "member a of a at 0;", 3, 15);
        c.fault(p + "member b of b at 0;", 3, 20);
        c.fault(p + "member b of c at 0;party c;", 3, 20);
        c.fault(p + "member b of a at 0;member b of a at 0;", 3, 34);
        c.fault(p + "twins a b;", 3, 14);
        c.fault(p + "member b of a at 0;twins b c;", 3, 35);
        c.fault(p + "motion a for against;", 3, 15);
        c.fault(p + "motion m for m against;", 3, 21);
        c.fault(p + "motion m for against b;", 3, 29);
        c.fault(p + "motion m for against;room m takes 1 odds 1;", 3, 34);
        c.fault(p + "room r takes 1 odds 1;room r takes 1 odds 1;", 3, 35);
        c.fault(p + "room r takes 1 odds 1;party r;", 3, 36);
        c.fault(p + "room r takes 1 odds 1;member b of r at 0;", 3, 42);
    }

    private static void numbers() {
        Check c = new Check();
        String[] texts = {"far ", "far ", "buried ", "ill ", "bell ", "bell ", "room r takes ", "room r takes ", "room r takes 5 odds "};
        int[] wrong = {0, 1000, 100, 3, 0, 61, 0, 61, 17};
        for (int i = 0; i < wrong.length; i++) {
            c.fault(texts[i] + wrong[i] + ";", 4, texts[i].length());
        }
        String member = "party a;member b of a at ";
        c.fault(member + "1000;", 4, member.length());
        c.fault(member + "0 speed 0;", 4, member.length() + 8);
        c.fault(member + "0 speed 100;", 4, member.length() + 8);
        c.fault(member + "0 price 100;", 4, member.length() + 8);
        c.fault(member + "0 dead 100;", 4, member.length() + 7);
    }

    private static void twice() {
        Check c = new Check();
        c.fault("far 1;far 1;", 5, 6);
        c.fault("buried 1;buried", 5, 9);
        c.fault("ill 1;bell 1;ill 9;", 5, 13);
        c.fault("bell 1;party a;bell 2;", 5, 15);
        String two = "party a;party z;member b of a at 0;member c of a at 0;member d of a at 0;";
        int n = two.length();
        c.fault(two + "twins b b;", 5, n + 8);
        c.fault(two + "twins b c;twins b d;", 5, n + 16);
        c.fault(two + "twins b c;twins d c;", 5, n + 18);
        c.fault(two + "motion m for a a against;", 5, n + 15);
        c.fault(two + "motion m for a against z a;", 5, n + 25);
        c.fault(two + "motion m for against z z;", 5, n + 23);
    }

    private static String rows(String part, int many) {
        StringBuilder b = new StringBuilder();
        for (int i = 0; i < many; i++) {
            b.append(part.replace("#", String.valueOf((char) ('a' + i))));
        }
        return b.toString();
    }

    private static void tooMany() {
        Check c = new Check();
        String p = "party p;";
        String[] parts = {"party x#;", "member x# of p at 0;", "motion x# for against;", "room x# takes 1 odds 1;"};
        int[] most = {3, 10, 5, 6};
        for (int i = 0; i < parts.length; i++) {
            c.take(p + rows(parts[i], most[i]));
            c.is("the most", c.x.many(i), i == 0 ? 4 : most[i]);
            String text = p + rows(parts[i], most[i]);
            c.fault(text + parts[i], 6, text.length());
            c.fault(text + parts[i].replace("x#", "far"), 6, text.length());
        }
    }

    private static void least() {
        Check c = new Check();
        c.fault("party far !", 2, 6);
        c.fault("party ! far", 1, 6);
        c.fault("far 5000; !", 4, 4);
        c.fault("party a;\n party b;\nmember c of d at 9999;", 3, 31);
    }

    private static void sessionsStand() {
        Check c = Check.of(Check.HOUSE);
        c.sessionsFault("!", 1, 0);
        c.sessionsFault("loop 12345;", 1, 5);
        c.sessionsFault("when yards ann ! 5;", 1, 15);
        c.sessionsFault("end;", 2, 0);
        c.sessionsFault("loop 1;end;end;", 2, 11);
        c.sessionsFault("loop 1;", 2, 7);
        c.sessionsFault("loop 1; any; ", 2, 13);
        c.sessionsFault("loop 1;end", 2, 10);
        c.sessionsFault("loop;", 2, 4);
        c.sessionsFault("far 5;", 2, 0);
        c.sessionsFault("ann;", 2, 0);
        c.sessionsFault("governs red;", 2, 0);
        c.sessionsFault("yards ann = 1;", 2, 0);
        c.sessionsFault("any ann;", 2, 4);
        c.sessionsFault("stop 5;", 2, 5);
        c.sessionsFault("stop", 2, 4);
        c.sessionsFault("come abcdefghi;", 2, 5);
        c.sessionsFault("come far;", 2, 5);
        c.sessionsFault("come 5;", 2, 5);
        c.sessionsFault("when ann; end;", 2, 5);
        c.sessionsFault("when yards ann;", 2, 14);
        c.sessionsFault("when yards ann > > 5;", 2, 17);
        c.sessionsFault("when yards ann > ann;", 2, 17);
        c.sessionsFault("minute ann;", 2, 7);
    }

    private static void sessionsNames() {
        Check c = Check.of(Check.HOUSE);
        for (String word : new String[] {"come", "go", "stay", "die", "fall"}) {
            for (String name : new String[] {"red", "bread", "hall", "nobody"}) {
                c.sessionsFault(word + " " + name + ";", 3, word.length() + 1);
            }
            c.takeSessions(word + " fay;", 1);
        }
        c.sessionsFault("when governs ann;", 3, 13);
        c.sessionsFault("when governs bread;", 3, 13);
        c.sessionsFault("when carried red;", 3, 13);
        c.sessionsFault("when yards red < 1;", 3, 11);
    }

    private static void sessionsNumbers() {
        Check c = Check.of(Check.HOUSE);
        c.sessionsFault("minute 0;", 4, 7);
        c.sessionsFault("minute 61;", 4, 7);
        c.takeSessions("minute 1;minute 60;", 2);
        c.sessionsFault("loop 0;", 4, 5);
        c.sessionsFault("loop 100;", 4, 5);
        c.takeSessions("loop 1;end;loop 99;end;", 2);
        c.sessionsFault("when yards ann > 1000;", 4, 17);
        c.takeSessions("when yards ann>0;end;when yards ann<999;end;when yards ann=5;end;", 3);
        c.takeSessions("when governs grey; when carried war; end; end;", 2);
    }

    private static void sessionsDeep() {
        Check c = Check.of(Check.HOUSE);
        c.takeSessions("loop 1;loop 1;when yards ann=0;any;end;end;end;", 4);
        c.sessionsFault("loop 1;loop 1;when yards ann=0;loop 1;", 7, 31);
        c.sessionsFault("loop 1;loop 1;loop 1;when", 7, 21);
        c.takeSessions("loop 1;loop 1;loop 1;end;end;loop 1;loop 1;end;end;end;", 5);
        c.takeSessions("any;".repeat(30), 30);
        c.sessionsFault("any;".repeat(31), 6, 120);
        c.sessionsFault("any;".repeat(30) + "end;", 2, 120);
        c.sessionsFault("any;".repeat(30) + "far;", 2, 120);
        c.takeSessions("any;".repeat(29) + "loop 1;end;", 30);
        c.sessionsFault("any;".repeat(27) + "loop 1;loop 1;loop 1;loop", 6, 129);
    }
}
