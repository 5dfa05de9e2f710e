/** Promises 9 to 16: the tape, texts and what they tell. */
public final class TextsTest {
    public static void main(String[] args) {
        tape();
        lengths();
        whole();
        members();
        defaults();
        tokens();
        oldOneStays();
        newOneReplaces();
        nothingIsLeftOver();
        Check.end();
    }

    private static void tape() {
        Check c = new Check();
        for (int fed = 20; fed <= 900; fed += 20) {
            Check.same("feed", c.x.feed(0x20202020, 0x20202020, 0x20202020, 0x20202020, 0x20202020), fed);
        }
        Check.same("more than 900", c.x.feed(1, 2, 3, 4, 5), -1);
        c.no("5 leaves the tape", c.x.assembly(901), 5);
        c.no("sessions above 300", c.x.sessions(301), 5);
        c.no("sessions below 0", c.x.sessions(-1), 5);
        c.is("sessions of 300", c.x.sessions(300), 0);
        c.no("the tape is empty then", c.x.sessions(1), 5);
        Check.same("feed again", c.x.feed(0x20202020, 0x70617274, 0x7920613b, 0x20202020, 0x20202020), 20);
        c.is("the highest byte first: party a;", c.x.assembly(20), 0);
        c.is("one party", c.x.many(0), 1);
        c.no("empty then", c.x.assembly(1), 5);
    }

    private static void lengths() {
        Check c = Check.of("party a;");
        int n = c.feed("party red;party blue;");
        c.no("below 0", c.x.assembly(-1), 5);
        c.no("above the tape", c.x.assembly(41), 5);
        c.no("far above", c.x.assembly(Integer.MAX_VALUE), 5);
        c.is("the old one stays", c.x.many(0), 1);
        Check.same("5 tells no fault", c.x.fault(0), 0);
        c.is("the first bytes alone", c.x.assembly(n - 11), 0);
        c.is("one party of two", c.x.many(0), 1);
        c.no("the rest is gone", c.x.assembly(1), 5);
        c.is("an empty text is an assembly of nobody", c.x.assembly(0), 0);
        c.is("no parties", c.x.many(0), 0);
    }

    private static void whole() {
        Check c = Check.of(Check.HOUSE);
        int[] many = {3, 6, 2, 3, 30, 5, 1, 4, 0, 1, 8, 16, 2, 2, 5, 0};
        for (int what = 0; what < many.length; what++) {
            c.is("many " + what, c.x.many(what), many[what]);
        }
        c.no("many below", c.x.many(-1), 5);
        c.no("many above", c.x.many(16), 5);
        c.is("for", c.x.motion(0, 0), 1);
        c.is("against", c.x.motion(0, 1), 2);
        c.is("for both", c.x.motion(1, 0), 6);
        c.no("no such motion", c.x.motion(2, 2), 2);
        c.no("no such motion below", c.x.motion(-1, 0), 2);
        c.no("no such side", c.x.motion(0, 2), 5);
        c.no("no such side below", c.x.motion(0, -1), 5);
        c.is("takes", c.x.room(1, 0), 20);
        c.is("odds", c.x.room(1, 1), 12);
        c.no("no such room", c.x.room(3, 5), 2);
        c.no("no such room below", c.x.room(-1, 0), 2);
        c.no("no such thing", c.x.room(0, 2), 5);
        c.no("no such thing below", c.x.room(0, -1), 5);
        Check.same("fault of others", c.x.fault(2), -1);
        Check.same("fault of others below", c.x.fault(-1), -1);
    }

    private static void members() {
        Check c = Check.of(Check.HOUSE);
        int[][] told = {{0, 0, 5, 10, 0, -1, 0, 0, 1}, {0, 40, 10, 3, 0, -1, 0, 0, 0}, {1, 20, 5, 7, 0, -1, 0, 0, -1},
            {1, 60, 5, 10, 0, 5, 0, 0, -1}, {2, 0, 5, 10, 0, -1, 1, 0, -1}, {2, 10, 2, 10, 0, -1, 0, 1, -1}};
        for (int m = 0; m < told.length; m++) {
            for (int what = 0; what < 9; what++) {
                if (told[m][what] == -1) {
                    c.no("member " + m + " " + what, c.x.member(m, what), 8);
                } else {
                    c.is("member " + m + " " + what, c.x.member(m, what), told[m][what]);
                }
            }
        }
        c.no("no such member", c.x.member(6, 9), 2);
        c.no("no such member below", c.x.member(-1, 0), 2);
        c.no("no such thing", c.x.member(0, 9), 5);
        c.no("no such thing below", c.x.member(0, -1), 5);
    }

    private static void defaults() {
        Check c = Check.of("party a;member b of a at 999 speed 99 price 99 dead 99 sick hidden;member c of a at 0 dead 0;"
            + "member d of a at 1 price 0;motion m for against;room r takes 60 odds 16;room s takes 1 odds 0;");
        int[] first = {0, 999, 99, 99, 0, 99, 1, 1};
        for (int what = 0; what < first.length; what++) {
            c.is("the most " + what, c.x.member(0, what), first[what]);
        }
        c.is("dead for 0 years", c.x.member(1, 5), 0);
        c.is("the dead and sick", c.x.many(11), 1);
        c.is("the dead", c.x.many(10), 3);
        c.is("price 0", c.x.member(2, 3), 0);
        c.is("speed without", c.x.member(2, 2), 5);
        c.is("price without", c.x.member(1, 3), 10);
        c.is("for none", c.x.motion(0, 0), 0);
        c.is("against none", c.x.motion(0, 1), 0);
        c.is("takes 60", c.x.room(0, 0), 60);
        c.is("odds 16", c.x.room(0, 1), 16);
        c.is("far", c.x.many(4), 50);
        c.is("buried", c.x.many(5), 9);
        c.is("ill", c.x.many(6), 1);
        c.is("bell", c.x.many(7), 10);
        c.take("bell 60;ill 2;buried 99;far 999;");
        c.is("most far", c.x.many(4), 999);
        c.is("most buried", c.x.many(5), 99);
        c.is("most ill", c.x.many(6), 2);
        c.is("most bell", c.x.many(7), 60);
        c.take("bell 1;ill 0;buried 0;far 1;");
        c.is("least far", c.x.many(4), 1);
        c.is("least buried", c.x.many(5), 0);
    }

    private static void tokens() {
        Check c = Check.of("far30;bell\n0007 ;party\n\n  abcdefgh;memberx of abcdefgh at 5;".replace("memberx", "member x"));
        c.is("no blank is needed", c.x.many(4), 30);
        c.is("zeros ahead", c.x.many(7), 7);
        c.is("a name of 8 letters", c.x.member(0, 0), 0);
        c.take("party a;member b of a at 5speed 7price 8dead 9sick hidden;");
        c.is("speed", c.x.member(0, 2), 7);
        c.is("dead", c.x.member(0, 5), 9);
        c.take(" \n ");
        c.is("blanks alone", c.x.many(0), 0);
    }

    private static void oldOneStays() {
        Check c = Check.of(Check.HOUSE);
        c.takeSessions("minute 3;", 1);
        c.is("minute", c.x.minute(4), 1);
        c.fault("party red;party red;", 3, 16);
        c.is("members stay", c.x.many(1), 6);
        c.is("the minute stays", c.x.many(8), 4);
        c.is("bells stay", c.x.bells(1), 1);
        c.no("the tape is gone", c.x.assembly(1), 5);
        c.sessionsFault("minute 3;minute", 2, 15);
        c.is("sessions stay", c.x.live(0), 1);
        c.is("so long", c.x.many(8), 7);
    }

    // mean() lives elsewhere than the assembly is: nothing of that may come into the next one.
    private static void nothingIsLeftOver() {
        Check c = Check.of(Check.HOUSE);
        c.takeSessions("go ann;go bob;minute 60;die fay;", 4);
        c.yes("mean", c.x.mean(0, 3));
        c.take("party a;member b of a at 7;member d of a at 7;");
        int[] many = {1, 2, 0, 0, 50, 9, 1, 10, 0, 0, 0, 0, 0, 0, 2, 0};
        for (int what = 0; what < many.length; what++) {
            c.is("many " + what, c.x.many(what), many[what]);
        }
        c.is("stays", c.x.member(0, 4), 0);
        c.no("no twin", c.x.member(0, 8), 8);
        c.is("no bell", c.x.bells(0), 0);
        c.no("no sessions", c.x.live(0), 8);
    }

    private static void newOneReplaces() {
        Check c = Check.of(Check.HOUSE);
        c.takeSessions("minute 3;", 1);
        c.x.minute(4);
        c.x.walk(0, 2);
        c.take(Check.HOUSE);
        c.is("minute 0", c.x.many(8), 0);
        c.is("no bell has rung", c.x.bells(1), 0);
        c.is("all stay", c.x.member(0, 4), 0);
        c.no("no sessions", c.x.live(0), 8);
        c.takeSessions("stop;any;", 2);
        c.takeSessions("", 0);
        c.is("sessions without steps are there", c.x.live(0), 0);
    }
}
