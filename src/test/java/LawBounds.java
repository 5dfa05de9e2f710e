/** Promises 52 to 58: other laws, tallies, where a chair is sought. */
final class LawBounds {
    private LawBounds() {
    }

    static void run() {
        carriedBy();
        carriedByEdges();
        farFor();
        trayTroubles();
        tallies();
        sures();
        asks();
        seeks();
        seekOrders();
        seekAts();
    }

    private static void carriedBy() {
        String law = "assembly: party a;party b;member c of a at 20;member d of b at 10 dead 5;member e of b at 0 sick;motion m for a against b;motion n for b against a; = 3";
        Rows.test(52, "FAR 1 to 999", law, "carriedBy(1, 0, 0) = 1", "carriedBy(999, 0, 0) = 1", "carriedBy(0, 9, 1) ! 5", "carriedBy(1000, 9, 1) ! 5", "carriedBy(MIN, 9, 1) ! 5", "carriedBy(MAX, 9, 1) ! 5",
            "carriedBy(-1, 9, 1) ! 5");
        Rows.test(52, "BURIED 0 to 99", law, "carriedBy(50, 0, 0) = 1", "carriedBy(50, 99, 0) = 2", "carriedBy(50, -1, 1) ! 5", "carriedBy(50, 100, 1) ! 5", "carriedBy(50, MIN, 1) ! 5", "carriedBy(50, MAX, 1) ! 5");
        Rows.test(52, "ILL 0 to 2", law, "carriedBy(50, 0, 0) = 1", "carriedBy(50, 0, 2) = 2", "carriedBy(50, 9, -1) ! 5", "carriedBy(50, 9, 3) ! 5", "carriedBy(50, 9, MIN) ! 5", "carriedBy(50, 9, MAX) ! 5");
        Rows.test(52, "the law stays", law, "carriedBy(1, 0, 2) = 0", "many(4) = 50", "many(5) = 9", "many(6) = 1", "many(12) = 2");
        Rows.test(52, "without MOTIONS", "carriedBy(1, 0, 0) = 0", "carriedBy(999, 99, 2) = 0", "carriedBy(0, 0, 0) ! 5");
        Rows.test(52, "all five", "assembly: party a;member b of a at 1;" + Rows.many("motion # for a against;", 'o', 5) + " = 1", "carriedBy(1, 0, 0) = 31", "carriedBy(999, 0, 0) = 31");
    }

    private static void carriedByEdges() {
        Rows.test(52, "FAR as far as it is, and one farther", "assembly: party a;party b;member c of a at 20;member d of b at 1;motion m for a against b; = 2", "carriedBy(20, 0, 0) = 1", "carriedBy(21, 0, 0) = 0",
            "carriedBy(2, 0, 0) = 1", "carriedBy(1, 0, 0) = 0");
        Rows.test(52, "BURIED as many YEARS as it is DEAD, and one fewer", "assembly: party a;member c of a at 20 dead 7;motion m for a against; = 1", "carriedBy(1, 7, 0) = 1", "carriedBy(1, 6, 0) = 0",
            "carriedBy(1, 8, 0) = 1");
        Rows.test(52, "ILL 0, 1, 2", "assembly: party a;party b;member c of a at 0 sick;member d of b at 1;motion m for a against b; = 2", "carriedBy(50, 0, 0) = 0", "carriedBy(50, 0, 1) = 0", "carriedBy(50, 0, 2) = 1");
    }

    private static void farFor() {
        String m = "assembly: party a;party b;member c of a at #;member d of b at %;motion m for a against b;motion n for b against a; = 2";
        Rows.test(53, "no such MOTION", Rows.HOUSE, "farFor(1) = 1", "farFor(-1) ! 2", "farFor(2) ! 2", "farFor(MIN) ! 2", "farFor(MAX) ! 2");
        Rows.test(53, "FAR 1", m.replace("#", "1").replace("%", "0"), "farFor(0) = 1", "farFor(1) ! 8");
        Rows.test(53, "FAR 2: both are far by 1", m.replace("#", "2").replace("%", "1"), "farFor(0) = 2", "farFor(1) ! 8");
        Rows.test(53, "FAR 999", m.replace("#", "999").replace("%", "998"), "farFor(0) = 999", "farFor(1) ! 8");
        Rows.test(53, "by none of 1 to 999", m.replace("#", "999").replace("%", "999"), "farFor(0) ! 8", "farFor(1) ! 8");
        Rows.test(53, "nobody is out", m.replace("#", "0").replace("%", "0"), "farFor(0) ! 8");
        Rows.test(53, "BURIED and ILL are as they are", "assembly: party a;party b;member c of a at 9;member d of b at 0 sick;motion m for a against b; = 2", "farFor(0) = 1", "rule(2, 2) = 1", "farFor(0) ! 8",
            "rule(2, 0) = 1", "farFor(0) = 1", "many(4) = 50");
        Rows.test(53, "the fifth of five", Rows.FULL, "farFor(4) ! 8", "farFor(5) ! 2", "carry(0, 999) = 0", "farFor(4) = 1");
    }

    private static void trayTroubles() {
        String[] calls = {"tally", "sure", "ask"};
        for (int i = 0; i < 3; i++) {
            String c = calls[i];
            Rows.test(54 + i, "no such TRAY", Rows.HOUSE, c + "(-1) ! 1", c + "(4) ! 1", c + "(MIN) ! 1", c + "(MAX) ! 1");
            Rows.test(54 + i, "MISSING", Rows.HOUSE, c + "(0) ! 3", c + "(3) ! 3");
            Rows.test(54 + i, "one number too few", Rows.HOUSE, "tray(0, 0, 2) = 1", c + "(0) ! 4", "tray(0, 0, 0) = 1", c + "(0) ! 4");
            // red: ann and bob away, 4; blue: cid away beside dot, 4; grey: eve 1, fay HIDDEN either way.
            Rows.test(54 + i, "just as many, and one more", Rows.HOUSE, "tray(0, 0, 3) = 1", "write(0, 0, 4) = 1", "write(0, 1, 4) = 1", "write(0, 2, 1) = 1", c + "(0) = " + new int[] {2, 7, 5}[i], "tray(3, 3, 4) = 1",
                "write(3, 0, 4) = 1", "write(3, 1, 4) = 1", "write(3, 2, 1) = 1", "write(3, 3, 99) = 1", c + "(3) = " + new int[] {2, 7, 5}[i], "member(0, 1) = 0");
        }
    }

    private static void tallies() {
        Rows.test(54, "of nobody: one WAY", "tray(0, 0, 0) = 1", "tally(0) = 1", "tray(0, 0, 5) = 1", "write(0, 0, 7) = 1", "tally(0) = 1");
        Rows.test(54, "no WAY", "assembly: party a;member b of a at 0; = 1", "tray(0, 3, 1) = 1", "write(0, 0, 1) = 1", "tally(0) = 0", "write(0, 0, -1) = 1", "tally(0) = 0", "write(0, 0, LEAST) = 1", "tally(0) = 0",
            "write(0, 0, GREATEST) = 1", "tally(0) = 0", "write(0, 0, 4294967296) = 1", "tally(0) = 0", "write(0, 0, 4294967298) = 1", "tally(0) = 0", "write(0, 0, 2) = 1", "tally(0) = 1", "write(0, 0, 0) = 1", "tally(0) = 1");
        Rows.test(54, "ten: 252 WAYS of five AWAY, one of none, one of all", Rows.FULL, "tray(0, 0, 4) = 1", "tally(0) = 1", "write(0, 0, 10) = 1", "tally(0) = 252", "write(0, 0, 20) = 1", "tally(0) = 1", "write(0, 0, 2) = 1",
            "tally(0) = 10", "write(0, 0, 1) = 1", "tally(0) = 0", "write(0, 0, 22) = 1", "tally(0) = 0");
        Rows.test(54, "the most: 1,024 WAYS of ten HIDDEN", "assembly: party a;" + Rows.many("member # of a at 0 hidden;", 'b', 10) + " = 10", "tray(0, 0, 1) = 1", "tally(0) = 1024", "write(0, 0, 1) = 1", "tally(0) = 0");
        Rows.test(54, "the SICK and the DEAD COUNT as they do", "assembly: ill 2;party a;member b of a at 0 sick;member c of a at 0 dead 0;member d of a at 0 dead 10; = 3", "tray(0, 0, 1) = 1", "tally(0) = 0", "write(0, 0, 4) = 1",
            "tally(0) = 1");
        Rows.test(54, "by FAR 999, too, AWAY COUNTS 2", Rows.FULL, "rule(0, 999) = 1", "tray(0, 0, 4) = 1", "write(0, 0, 20) = 1", "tally(0) = 1");
        Rows.test(54, "all PARTIES must be just so", Rows.FULL, "tray(0, 0, 4) = 1", "write(0, 3, 1) = 1", "tally(0) = 0", "write(0, 3, 0) = 1", "tally(0) = 1");
    }

    private static void sures() {
        Rows.test(55, "no WAY", Rows.FULL, "tray(0, 0, 4) = 1", "write(0, 0, 1) = 1", "sure(0) ! 8");
        Rows.test(55, "all, none, nobody for sure", Rows.FULL, "tray(0, 0, 4) = 1", "write(0, 0, 20) = 1", "sure(0) = 1023", "write(0, 0, 0) = 1", "sure(0) = 0", "write(0, 0, 18) = 1", "sure(0) = 0");
        Rows.test(55, "of nobody: the empty set", "tray(0, 0, 0) = 1", "sure(0) = 0");
        Rows.test(55, "the SICK and the DEAD are not AWAY", "assembly: party a;member b of a at 999 sick;member c of a at 999 dead 0;member d of a at 0; = 3", "tray(0, 0, 1) = 1", "write(0, 0, 5) = 1", "sure(0) = 4",
            "write(0, 0, 3) = 1", "sure(0) = 0");
        Rows.test(55, "the tenth for sure", Rows.FULL, "join(9, 3) = 0", "tray(0, 0, 4) = 1", "write(0, 3, 2) = 1", "sure(0) = 512");
    }

    private static void asks() {
        Rows.test(56, "no WAY, one WAY", Rows.FULL, "tray(0, 0, 4) = 1", "write(0, 0, 1) = 1", "ask(0) ! 8", "write(0, 0, 0) = 1", "ask(0) ! 8", "write(0, 0, 20) = 1", "ask(0) ! 8");
        Rows.test(56, "two WAYS", "assembly: party a;member b of a at 0;member c of a at 0; = 2", "tray(0, 0, 1) = 1", "write(0, 0, 2) = 1", "ask(0) = 0", "fall(0, true) = 1", "write(0, 0, 1) = 1", "ask(0) ! 8");
        Rows.test(56, "of several the first", Rows.FULL, "tray(0, 0, 4) = 1", "write(0, 0, 10) = 1", "ask(0) = 0", "write(0, 0, 2) = 1", "ask(0) = 0");
        Rows.test(56, "the least of the greater numbers", "assembly: party a;party b;member c of a at 0;member d of b at 0;member e of b at 0;member f of a at 0 hidden; = 4", "tray(0, 0, 2) = 1", "write(0, 1, 2) = 1", "tally(0) = 4",
            "ask(0) = 1", "hide(3, false) = 1", "tally(0) = 2", "ask(0) = 1");
        Rows.test(56, "the tenth is the only one", "assembly: party a;" + Rows.many("member # of a at 0 sick;", 'b', 9) + "member z of a at 0 hidden; = 10", "tray(0, 0, 1) = 1", "write(0, 0, 9) = 1", "tally(0) = 2", "ask(0) = 9");
        Rows.test(56, "of nobody", "tray(0, 0, 0) = 1", "ask(0) ! 8");
    }

    private static void seeks() {
        Rows.test(57, "no ROOMS, no ODDS", "seek() ! 8", "assembly: " + Rows.many("room # takes 60 odds 0;", 'a', 6) + " = 0", "seek() ! 8", "seekAt(0) ! 8", "top() -> 0", "bottom() -> 1");
        Rows.test(57, "one ROOM, the least and the most", "assembly: room a takes 1 odds 1; = 0", "seek() = 1", "top() -> 1", "bottom() -> 1", "assembly: room a takes 60 odds 16; = 0", "seek() = 1", "top() -> 60", "bottom() -> 1");
        Rows.test(57, "the last of six alone has ODDS", "assembly: " + Rows.many("room # takes 60 odds 0;", 'a', 5) + "room z takes 7 odds 3; = 0", "seek() = 1", "top() -> 7", "bottom() -> 1");
        Rows.test(57, "six alike", Rows.FULL, "seek() = 1", "top() -> 7", "bottom() -> 2");
        Rows.test(57, "refused, the FRACTION stays", Rows.HOUSE, "seek() = 1", "assembly(0) = 0", "seek() ! 8", "top() -> 45", "bottom() -> 2");
    }

    // All orders of four ROOMS that take 1 MINUTE each: the one with the most ODDS first.
    private static void seekOrders() {
        for (int code = 0; code < 256; code++) {
            int[] odds = {code & 3, code >> 2 & 3, code >> 4 & 3, code >> 6};
            StringBuilder text = new StringBuilder();
            boolean[] seen = new boolean[4];
            for (int i = 0; i < 4; i++) {
                seen[odds[i]] = true;
                text.append("room ").append((char) ('a' + i)).append(" takes 1 odds ").append(odds[i]).append(';');
            }
            if (seen[0] && seen[1] && seen[2] && seen[3]) {
                String[] rows = new String[5];
                rows[0] = "assembly: " + text + " = 0";
                for (int i = 0; i < 4; i++) {
                    rows[4 - odds[i]] = "seekAt(" + (3 - odds[i]) + ") = " + i;
                }
                Rows.test(58, "the most ODDS first", rows);
            }
        }
    }

    private static void seekAts() {
        Rows.test(58, "none, no such", Rows.HOUSE, "seekAt(0) = 1", "seekAt(2) = 2", "seekAt(-1) ! 8", "seekAt(3) ! 8", "seekAt(MIN) ! 8", "seekAt(MAX) ! 8");
        Rows.test(58, "no ROOMS", "seekAt(0) ! 8", "seekAt(-1) ! 8");
        Rows.test(58, "no ODDS", "assembly: room a takes 1 odds 0; = 0", "seekAt(0) ! 8");
        Rows.test(58, "six alike: as they stand", Rows.FULL, "seekAt(0) = 0", "seekAt(1) = 1", "seekAt(2) = 2", "seekAt(3) = 3", "seekAt(4) = 4", "seekAt(5) = 5", "seekAt(6) ! 8");
        Rows.test(58, "without ODDS last, as they stand", "assembly: room a takes 1 odds 0;room b takes 60 odds 0;room c takes 60 odds 1; = 0", "seekAt(0) = 2", "seekAt(1) = 0", "seekAt(2) = 1");
        Rows.test(58, "of several the first by ROOMS", "assembly: room a takes 60 odds 16;room b takes 30 odds 8;room c takes 15 odds 4;room d takes 59 odds 16; = 0", "seekAt(0) = 3", "seekAt(1) = 0", "seekAt(2) = 1", "seekAt(3) = 2");
        Rows.test(58, "a little more ODDS for a MINUTE", "assembly: room a takes 60 odds 15;room b takes 4 odds 1;room c takes 59 odds 15; = 0", "seekAt(0) = 2", "seekAt(1) = 0", "seekAt(2) = 1");
    }
}
