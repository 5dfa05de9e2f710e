/** One EmptyChairs under test, with what its answers and its STATUS must be. */
final class Check {
    static final String HOUSE = "far 30;buried 5;ill 1;bell 4;party red;party blue;party grey;"
        + "member ann of red at 0;member bob of red at 40 speed 10 price 3;member cid of blue at 20 speed 5 price 7;"
        + "member dot of blue at 60 dead 5;member eve of grey at 0 sick;member fay of grey at 10 speed 2 hidden;"
        + "twins ann bob;motion bread for red against blue;motion war for blue grey against red;"
        + "room hall takes 10 odds 4;room attic takes 20 odds 12;room cellar takes 5 odds 0;";

    private static int wrong = 0;
    private static int checked = 0;

    final EmptyChairs x = new EmptyChairs();

    static Check of(String assembly) {
        Check c = new Check();
        c.take(assembly);
        return c;
    }

    static void same(String what, long got, long want) {
        checked++;
        if (got != want) {
            wrong++;
            System.out.println(what + " answered " + got + ", due is " + want);
        }
    }

    /** An answer with STATUS 0. */
    void is(String what, long got, long want) {
        int status = x.status();
        same(what, got, want);
        same(what + ": status", status, 0);
    }

    void yes(String what, boolean got) {
        is(what, got ? 1 : 0, 1);
    }

    /** A call that answers NONE, and why. */
    void no(String what, long got, int why) {
        int status = x.status();
        same(what, got, EmptyChairs.NONE);
        same(what + ": status", status, why);
    }

    void no(String what, boolean got, int why) {
        int status = x.status();
        same(what, got ? 1 : 0, 0);
        same(what + ": status", status, why);
    }

    void fraction(String what, boolean got, long top, long bottom) {
        yes(what, got);
        same(what + ": top", x.top(), top);
        same(what + ": bottom", x.bottom(), bottom);
    }

    /** The text comes behind the tape, with blanks up to the next 20 bytes; gives its length. */
    int feed(String text) {
        return Rows.feed(x, text);
    }

    int assembly(String text) {
        return x.assembly(feed(text));
    }

    int sessions(String text) {
        return x.sessions(feed(text));
    }

    /** An ASSEMBLY without a FAULT. */
    void take(String text) {
        int members = assembly(text);
        same("status of " + text, x.status(), 0);
        same("members of " + text, members, x.many(1));
        same("fault(0) of " + text, x.fault(0), 0);
        same("fault(1) of " + text, x.fault(1), EmptyChairs.NONE);
    }

    void takeSessions(String text, int steps) {
        is("sessions " + text, sessions(text), steps);
        same("fault(0) of " + text, x.fault(0), 0);
        same("fault(1) of " + text, x.fault(1), EmptyChairs.NONE);
    }

    void fault(String text, int kind, int place) {
        no("assembly " + text, assembly(text), 10);
        tellsFault(text, kind, place);
    }

    void sessionsFault(String text, int kind, int place) {
        no("sessions " + text, sessions(text), 10);
        tellsFault(text, kind, place);
    }

    private void tellsFault(String text, int kind, int place) {
        same("fault kind of " + text, x.fault(0), kind);
        same("fault place of " + text, x.fault(1), place);
    }

    static void end() {
        System.out.println(checked + " answers, " + wrong + " not as due");
        System.exit(wrong == 0 && checked > 0 ? 0 : 1);
    }
}
