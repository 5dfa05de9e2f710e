/** Promises 62 and 63: MARKS, and all that is taken back to them. */
public final class MarksTest {
    public static void main(String[] args) {
        counted();
        takenBack();
        otherAssemblies();
        notTakenBack();
        Check.end();
    }

    private static void counted() {
        Check c = new Check();
        c.no("none", c.x.back(), 8);
        for (int i = 1; i <= 3; i++) {
            c.is("mark", c.x.mark(), i);
            c.x.minute(i);
        }
        c.no("a fourth", c.x.mark(), 7);
        c.is("nothing changed", c.x.many(8), 6);
        int[] minutes = {3, 1, 0};
        for (int i = 0; i < 3; i++) {
            c.is("back", c.x.back(), 2 - i);
            c.is("the latest first", c.x.many(8), minutes[i]);
        }
        c.no("none is left", c.x.back(), 8);
        c.is("mark again", c.x.mark(), 1);
    }

    private static void takenBack() {
        Check c = Check.of(Check.HOUSE);
        c.takeSessions("minute 1;", 1);
        c.x.minute(4);
        c.x.walk(1, 1);
        c.is("mark", c.x.mark(), 1);
        c.x.minute(60);
        c.x.walk(1, 2);
        c.x.walk(2, 2);
        c.x.die(0);
        c.x.year();
        c.x.fall(4, false);
        c.x.hide(5, false);
        c.x.carry(5, 100);
        for (int what = 0; what < 4; what++) {
            c.x.rule(what, 2);
        }
        c.x.join(5, 0);
        c.x.side(0, 2, 0);
        c.x.side(1, 2, 1);
        c.takeSessions("minute 2;minute 2;", 2);
        c.x.live(1);
        c.is("back", c.x.back(), 0);
        int[] many = {3, 6, 2, 3, 30, 5, 1, 4, 4, 1, 8, 16, 2, 2, 5, 0};
        for (int what = 0; what < many.length; what++) {
            c.is("many " + what, c.x.many(what), many[what]);
        }
        int[] of = {2, 10, 2, 10, 0, -1, 0, 1, -1};
        for (int what = 0; what < of.length; what++) {
            Check.same("fay " + what, c.x.member(5, what), of[what]);
        }
        c.is("bob comes", c.x.member(1, 4), 1);
        c.is("bob at 40", c.x.member(1, 1), 40);
        c.is("bells", c.x.bells(1), 1);
        c.is("for", c.x.motion(0, 0), 1);
        c.is("against", c.x.motion(1, 1), 1);
        c.is("one step", c.x.live(0), 1);
        c.is("of one minute", c.x.many(8), 5);
    }

    private static void otherAssemblies() {
        Check c = Check.of(Check.HOUSE);
        c.takeSessions("when carried war;go fay;end;", 2);
        c.x.mark();
        c.take("party fay;member red of fay at 60;motion ann for fay against;room war takes 1 odds 1;");
        c.is("mark", c.x.mark(), 2);
        c.take("");
        c.is("back to the second", c.x.back(), 1);
        c.is("one member", c.x.many(1), 1);
        c.no("no sessions", c.x.live(0), 8);
        c.sessionsFault("go ann;", 3, 3);
        c.takeSessions("go red;", 1);
        c.is("back to the first", c.x.back(), 0);
        c.is("six members", c.x.many(1), 6);
        c.is("its sessions", c.x.live(0), 2);
        c.is("fay goes", c.x.member(5, 4), 2);
        c.is("twins", c.x.member(1, 8), 0);
        c.is("rooms", c.x.room(1, 0), 20);
        c.takeSessions("go ann;when carried bread;end;", 2);
    }

    private static void notTakenBack() {
        Check c = Check.of(Check.HOUSE);
        c.x.mark();
        c.x.tray(0, 1, 3);
        c.x.write(0, 2, 44);
        c.x.seek();
        c.fault("far 0;", 4, 4);
        c.feed("party a;");
        c.is("back", c.x.back(), 0);
        c.is("the tray stays", c.x.read(0, 2), 44);
        Check.same("the fraction stays", c.x.top(), 45);
        Check.same("the fault stays", c.x.fault(0), 4);
        c.is("the tape stays", c.x.assembly(8), 0);
    }
}
