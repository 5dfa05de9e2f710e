/** Promises 62 and 63: MARKS. */
final class MarkBounds {
    private MarkBounds() {
    }

    static void run() {
        marks();
        backs();
        whatIsKept();
        whatIsNot();
    }

    private static void marks() {
        Rows.test(62, "at most 3", "mark() = 1", "mark() = 2", "mark() = 3", "mark() ! 7", "mark() ! 7");
        Rows.test(62, "a fourth that is refused takes the place of none", "mark() = 1", "minute(1) = -1", "mark() = 2", "minute(1) = -1", "mark() = 3", "minute(1) = -1", "mark() ! 7", "back() = 2", "many(8) = 2", "back() = 1",
            "many(8) = 1", "back() = 0", "many(8) = 0");
        Rows.test(62, "one more when one is gone", "mark() = 1", "mark() = 2", "mark() = 3", "back() = 2", "mark() = 3", "mark() ! 7");
        Rows.test(62, "they stay when an ASSEMBLY is taken", Rows.HOUSE, "mark() = 1", Rows.FULL, "mark() = 2", "assembly(0) = 0", "mark() = 3", "mark() ! 7", "back() = 2", "many(1) = 0", "back() = 1", "many(1) = 10", "back() = 0",
            "many(1) = 6");
    }

    private static void backs() {
        Rows.test(63, "none", "back() ! 8", "mark() = 1", "back() = 0", "back() ! 8");
        Rows.test(63, "the latest is gone then", "mark() = 1", "minute(1) = -1", "mark() = 2", "minute(1) = -1", "back() = 1", "many(8) = 1", "minute(5) = -1", "back() = 0", "many(8) = 0", "back() ! 8", "many(8) = 0");
        Rows.test(63, "to an ASSEMBLY of nobody, to a full one", "mark() = 1", Rows.FULL, "mark() = 2", "assembly(0) = 0", "back() = 1", "many(0) = 4", "many(1) = 10", "many(2) = 5", "many(3) = 6", "member(9, 1) = 0",
            "motion(4, 0) = 1", "room(5, 1) = 1", "back() = 0", "many(0) = 0", "many(1) = 0", "many(2) = 0", "many(3) = 0");
    }

    private static void whatIsKept() {
        Rows.test(63, "the law, the MINUTE, BELLS", Rows.HOUSE, "minute(4) = 1", "mark() = 1", "rule(0, 999) = 1", "rule(1, 0) = 1", "rule(2, 2) = 1", "rule(3, 1) = 1", "minute(600) = 2", "back() = 0", "many(4) = 30", "many(5) = 5",
            "many(6) = 1", "many(7) = 4", "many(8) = 4", "bells(1) = 1", "bells(2) = 0", "many(15) = 0");
        Rows.test(63, "BELLS for nobody", "minute(600) = -1", "mark() = 1", "minute(600) = -1", "many(15) = 120", "back() = 0", "many(15) = 60");
        Rows.test(63, "all of a MEMBER", Rows.HOUSE, "walk(1, 2) = 1", "mark() = 1", "join(1, 2) = 0", "carry(1, 999) = 40", "walk(1, 1) = 1", "fall(1, true) = 1", "hide(1, true) = 1", "die(1) = 4", "back() = 0", "member(1, 0) = 0",
            "member(1, 1) = 40", "member(1, 2) = 10", "member(1, 3) = 3", "member(1, 4) = 2", "member(1, 5) ! 8", "member(1, 6) = 0", "member(1, 7) = 0", "member(1, 8) = 0");
        Rows.test(63, "MOTIONS", Rows.HOUSE, "mark() = 1", "side(0, 2, 0) = 1", "side(1, 0, 2) = 1", "back() = 0", "motion(0, 0) = 1", "motion(0, 1) = 2", "motion(1, 0) = 6", "motion(1, 1) = 1");
        Rows.test(63, "the SESSIONS", Rows.HOUSE, "mark() = 1", "sessions: minute 1; = 1", "mark() = 2", "sessions: minute 2;minute 2; = 2", "back() = 1", "live(0) = 1", "lived(1) = 1", "back() = 0", "live(0) ! 8");
        Rows.test(63, "thirty STEPS", Rows.HOUSE, "sessions: " + "minute 1;".repeat(30) + " = 30", "mark() = 1", "sessions(0) = 0", "back() = 0", "live(0) = 30", "lived(1) = 30");
        Rows.test(63, "the NAMES", Rows.HOUSE, "mark() = 1", Rows.FULL, "sessions: die ann; ! 3 @ 4", "back() = 0", "sessions: die ann; = 1", "sessions: die e; ! 3 @ 4");
        Rows.test(63, "what is done later does not change a MARK", Rows.HOUSE, "mark() = 1", "die(0) = 4", "mark() = 2", "die(1) = 3", "back() = 1", "many(10) = 9", "die(2) = 3", "back() = 0", "many(10) = 8");
    }

    private static void whatIsNot() {
        Rows.test(63, "TRAYS, the FRACTION, the FAULT, what was LIVED", Rows.HOUSE, "sessions: minute 7; = 1", "mark() = 1", "tray(0, 1, 2) = 1", "write(0, 1, 5) = 1", "seek() = 1", "assembly: far 0; ! 4 @ 4", "live(0) = 1", "back() = 0",
            "read(0, 1) = 5", "top() -> 45", "bottom() -> 2", "fault(0) -> 4", "fault(1) -> 4", "lived(1) = 7", "many(8) = 0");
        Rows.test(63, "the tape", Rows.HOUSE, "mark() = 1", "tape: party a;", "back() = 0", "feed(538976288, 538976288, 538976288, 538976288, 538976288) -> 40", "assembly(8) = 0", "many(0) = 1");
    }
}
