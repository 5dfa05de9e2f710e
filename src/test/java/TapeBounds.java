/** Promises 9 to 12: the tape, how long a text is, what fault() tells. */
final class TapeBounds {
    private static final String BLANKS_900 = "tape: " + " ".repeat(900);
    private static final String PADDED_PARTY = "tape: " + " ".repeat(892) + "party a;";

    private TapeBounds() {
    }

    static void run() {
        feeds();
        assemblyLengths();
        assemblyReplaces();
        sessionsLengths();
        faults();
    }

    private static String[] feedRows(int many) {
        String[] rows = new String[many];
        for (int i = 0; i < many; i++) {
            rows[i] = "feed(MIN, MAX, -1, 0, 1) -> " + (i < 45 ? 20 * (i + 1) : -1);
        }
        return rows;
    }

    private static void feeds() {
        Rows.test(9, "45 times twenty bytes, and none more", feedRows(48));
        Rows.test(9, "the highest byte of each int first", "feed(1885434484, 2032166203, 538976288, 538976288, 538976288) -> 20", "assembly(20) = 0", "many(0) = 1");
        Rows.test(9, "the bytes of the least int: the first begins no TOKEN, the rest are 0", "feed(MIN, MIN, MIN, MIN, MIN) -> 20", "assembly(20) ! 10", "fault(0) -> 1",
            "fault(1) -> 0");
        Rows.test(9, "the lowest byte last", "feed(538976288, 538976288, 538976288, 538976288, 538976315) -> 20", "assembly(20) ! 10", "fault(0) -> 2", "fault(1) -> 19");
        Rows.test(9, "each int's bytes stand behind the one ahead", "feed(538976288, 538976288, 538976288, 538976288, 538976288) -> 20",
            "feed(538976288, 538976315, 538976288, 538976288, 538976288) -> 40", "assembly(40) ! 10", "fault(1) -> 27");
        Rows.test(9, "what is too much changes nothing", PADDED_PARTY, "feed(-1, -1, -1, -1, -1) -> -1", "assembly(900) = 0", "many(0) = 1");
        Rows.test(9, "880 bytes have space for twenty more", "tape: " + " ".repeat(880), "feed(538976288, 538976288, 538976288, 538976288, 538976288) -> 900",
            "feed(538976288, 538976288, 538976288, 538976288, 538976288) -> -1", "assembly(900) = 0", "feed(0, 0, 0, 0, 0) -> 20");
    }

    private static void assemblyLengths() {
        Rows.test(10, "n from 0 to what is on the tape", "tape: party a;party b;", "assembly(-1) ! 5", "assembly(21) ! 5", "assembly(MIN) ! 5", "assembly(MAX) ! 5", "assembly(20) = 0",
            "many(0) = 2");
        Rows.test(10, "0 bytes are an ASSEMBLY of nobody", Rows.HOUSE, "tape: party a;", "assembly(0) = 0", "many(0) = 0", "many(4) = 50", "assembly(1) ! 5");
        Rows.test(10, "0 bytes of an empty tape", Rows.HOUSE, "assembly(0) = 0", "many(1) = 0");
        Rows.test(10, "one byte, a blank", "tape: \n", "assembly(1) = 0");
        Rows.test(10, "one byte, no blank", "tape: ;", "assembly(1) ! 10", "fault(0) -> 2", "fault(1) -> 0");
        Rows.test(10, "900 bytes, the last of which ends a PART", PADDED_PARTY, "assembly(901) ! 5", "assembly(900) = 0", "many(0) = 1");
        Rows.test(10, "899 of 900 bytes", PADDED_PARTY, "assembly(899) ! 10", "fault(0) -> 2", "fault(1) -> 899");
        Rows.test(10, "900 blanks", BLANKS_900, "assembly(900) = 0", "many(0) = 0");
        Rows.test(10, "900 letters are one WORD", "assembly: " + "a".repeat(900) + " ! 2 @ 0");
        Rows.test(10, "900 digits are no NUMBER", "assembly: " + "1".repeat(900) + " ! 1 @ 0");
        Rows.test(10, "900 digits where a NUMBER must stand", "assembly: far " + "0".repeat(896) + " ! 1 @ 4");
        Rows.test(10, "900 SIGNS", "assembly: " + ";".repeat(900) + " ! 2 @ 0");
        Rows.test(10, "900 bytes that are no TOKENS", "assembly: " + "\u00ff".repeat(900) + " ! 1 @ 0");
        Rows.test(10, "n ends a WORD", "tape: party abc;", "assembly(8) ! 10", "fault(0) -> 2", "fault(1) -> 8");
        Rows.test(10, "n ends a key WORD", "tape: party abc;", "assembly(4) ! 10", "fault(0) -> 2", "fault(1) -> 0");
        Rows.test(10, "n ends a NUMBER", "tape: far 99999;", "assembly(6) ! 10", "fault(0) -> 2", "fault(1) -> 6");
        Rows.test(10, "n ends a NUMBER at its fourth digit", "tape: far 12345;", "assembly(8) ! 10", "fault(0) -> 4", "fault(1) -> 4");
        Rows.test(10, "n is behind a NUMBER of 5 digits", "tape: far 12345;", "assembly(9) ! 10", "fault(0) -> 1", "fault(1) -> 4");
        Rows.test(10, "what stands behind n is not looked at", "tape: party a;!", "assembly(8) = 0", "many(0) = 1");
        Rows.test(10, "the tape is empty then", "tape: party a;", "assembly(8) = 0", "assembly(1) ! 5", "feed(0, 0, 0, 0, 0) -> 20");
        Rows.test(10, "with a FAULT, too", "assembly: party ! 2 @ 5", "assembly(1) ! 5", "feed(0, 0, 0, 0, 0) -> 20");
        Rows.test(10, "but for 5", "tape: party a;", "assembly(21) ! 5", "feed(538976288, 538976288, 538976288, 538976288, 538976288) -> 40", "assembly(8) = 0", "many(0) = 1");
        Rows.test(10, "how many MEMBERS: none, one, ten", "assembly: party a; = 0", "assembly: party a;member b of a at 0; = 1", Rows.FULL);
    }

    private static void assemblyReplaces() {
        Rows.test(10, "with a FAULT the old one stays", Rows.HOUSE, "sessions: minute 4; = 1", "minute(4) = 1", "walk(0, 2) = 1", "assembly: party a;party a; ! 3 @ 14", "many(1) = 6",
            "many(8) = 4", "bells(1) = 1", "member(0, 4) = 2", "live(0) = 1", "many(8) = 8");
        Rows.test(10, "a FAULT at the last byte leaves the old one, too", Rows.HOUSE, "assembly: " + Rows.FULL_TEXT + "x ! 2 @ " + Rows.FULL_TEXT.length(), "many(1) = 6", "many(0) = 3");
        Rows.test(10, "it is MINUTE 0, no BELL has rung, there are no SESSIONS, all STAY", Rows.HOUSE, "sessions: minute 4; = 1", "minute(600) = 1", "walk(0, 2) = 1", "fall(0, true) = 1",
            "hide(0, true) = 1", Rows.HOUSE, "many(8) = 0", "bells(0) = 0", "bells(1) = 0", "bells(2) = 0", "many(15) = 0", "live(0) ! 8", "mean(0, 1) ! 8", "member(0, 4) = 0",
            "member(0, 6) = 0", "member(0, 7) = 0");
        Rows.test(10, "nothing of what mean() LIVED is in the next one", Rows.HOUSE, "sessions: go ann;go bob;come cid;minute 60;die fay;fall cid; = 6", "mean(0, 20) = 1", Rows.HOUSE, "many(8) = 0", "bells(0) = 0",
            "bells(1) = 0", "bells(2) = 0", "many(15) = 0", "member(0, 4) = 0", "member(1, 4) = 0", "member(2, 4) = 0", "member(2, 6) = 0", "member(5, 5) ! 8", "member(2, 8) ! 8", "live(0) ! 8");
        Rows.test(10, "BELLS for nobody are gone, too", "minute(600) = -1", "many(15) = 60", "assembly(0) = 0", "many(15) = 0", "many(8) = 0");
        Rows.test(10, "the law is as without if it is not told", Rows.HOUSE, "rule(0, 999) = 1", "rule(1, 99) = 1", "rule(2, 2) = 1", "rule(3, 60) = 1", "assembly: party a; = 0", "many(4) = 50",
            "many(5) = 9", "many(6) = 1", "many(7) = 10");
        Rows.test(10, "from full to nobody and back", Rows.FULL, "assembly(0) = 0", "many(0) = 0", "many(1) = 0", "many(2) = 0", "many(3) = 0", Rows.FULL, "many(0) = 4", "many(1) = 10",
            "many(2) = 5", "many(3) = 6");
    }

    private static void sessionsLengths() {
        Rows.test(11, "n from 0 to what is on the tape", "tape: any;", "sessions(-1) ! 5", "sessions(21) ! 5", "sessions(MIN) ! 5", "sessions(MAX) ! 5", "sessions(20) = 1");
        Rows.test(11, "300 bytes, the last of which ends a STEP", "tape: " + " ".repeat(296) + "any;", "sessions(301) ! 5", "sessions(300) = 1", "live(0) = 1");
        Rows.test(11, "299 of these", "tape: " + " ".repeat(296) + "any;", "sessions(299) ! 10", "fault(0) -> 2", "fault(1) -> 299");
        Rows.test(11, "301 bytes are too many, though they are on the tape", BLANKS_900, "sessions(301) ! 5", "sessions(900) ! 5", "sessions(901) ! 5", "sessions(300) = 0");
        Rows.test(11, "320 bytes on the tape", "tape: " + "any;".repeat(30) + " ".repeat(200), "sessions(320) ! 5", "sessions(301) ! 5", "sessions(300) = 30");
        Rows.test(11, "300 letters, digits, SIGNS", "sessions: " + "a".repeat(300) + " ! 2 @ 0", "sessions: " + "1".repeat(300) + " ! 1 @ 0", "sessions: " + "<".repeat(300) + " ! 2 @ 0");
        Rows.test(11, "0 bytes are SESSIONS without a STEP", "sessions(0) = 0", "live(0) = 0");
        Rows.test(11, "0 bytes take the place of those ahead", Rows.HOUSE, "sessions: die ann; = 1", "sessions(0) = 0", "live(0) = 0", "lived(3) = 0");
        Rows.test(11, "the tape is empty then", "tape: any;", "sessions(4) = 1", "sessions(1) ! 5", "feed(0, 0, 0, 0, 0) -> 20");
        Rows.test(11, "with a FAULT, too", "sessions: any ! 2 @ 3", "sessions(1) ! 5", "feed(0, 0, 0, 0, 0) -> 20");
        Rows.test(11, "but for 5", BLANKS_900, "sessions(301) ! 5", "feed(0, 0, 0, 0, 0) -> -1", "sessions(0) = 0", "feed(0, 0, 0, 0, 0) -> 20");
        Rows.test(11, "with a FAULT the old ones stay", Rows.HOUSE, "sessions: minute 3; = 1", "sessions: die ann;die ! 2 @ 11", "live(0) = 1", "lived(1) = 3", "lived(3) = 0");
        Rows.test(11, "with a FAULT there are none if there were none", Rows.HOUSE, "sessions: die ann;die ! 2 @ 11", "live(0) ! 8");
        Rows.test(11, "how many STEPS: an end is none", "sessions: loop 1;loop 1;loop 1;end;end;end; = 3");
    }

    private static void faults() {
        Rows.test(12, "ahead of any", "fault(0) -> -1", "fault(1) -> -1", "fault(2) -> -1", "fault(-1) -> -1");
        Rows.test(12, "STATUS 5 tells nothing", "assembly(1) ! 5", "sessions(1) ! 5", "fault(0) -> -1", "fault(1) -> -1");
        Rows.test(12, "without a FAULT", "assembly(0) = 0", "fault(0) -> 0", "fault(1) -> -1", "fault(2) -> -1", "fault(-1) -> -1", "fault(MIN) -> -1", "fault(MAX) -> -1");
        Rows.test(12, "with one", "assembly: far 0; ! 4 @ 4", "fault(0) -> 4", "fault(1) -> 4", "fault(2) -> -1", "fault(-1) -> -1", "fault(MIN) -> -1", "fault(MAX) -> -1");
        Rows.test(12, "the latest with STATUS 0 or 10", "assembly: far 0; ! 4 @ 4", "assembly(1) ! 5", "fault(0) -> 4", "fault(1) -> 4", "sessions(-1) ! 5", "fault(0) -> 4", "sessions(0) = 0",
            "fault(0) -> 0", "fault(1) -> -1", "sessions: end; ! 2 @ 0", "fault(0) -> 2", "fault(1) -> 0", "assembly(0) = 0", "fault(0) -> 0", "fault(1) -> -1");
        Rows.test(12, "the place 0, and the place 900", "assembly: ; ! 2 @ 0", "assembly: far" + " ".repeat(897) + " ! 2 @ 900");
        Rows.test(12, "each kind", Rows.HOUSE, "assembly: ! ! 1 @ 0", "assembly: a ! 2 @ 0", "assembly: party a;party a; ! 3 @ 14", "assembly: far 0; ! 4 @ 4", "assembly: far 1;far 1; ! 5 @ 6",
            "assembly: " + Rows.many("party #;", 'a', 5) + " ! 6 @ 32", "sessions: loop 1;loop 1;loop 1;loop 1; ! 7 @ 21");
        Rows.test(12, "other calls change nothing of it", "assembly: far 0; ! 4 @ 4", "many(16) ! 5", "mark() = 1", "back() = 0", "fault(0) -> 4", "fault(1) -> 4");
    }
}
