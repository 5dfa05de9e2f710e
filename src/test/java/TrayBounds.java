/** Promises 1 to 8: a new object, STATUS, the FRACTION, TRAYS. */
final class TrayBounds {
    private TrayBounds() {
    }

    static void run() {
        newObject();
        statuses();
        statusOrder();
        fractions();
        trays();
        writes();
        cuts();
        pours();
        wrongPours();
    }

    private static void newObject() {
        Rows.test(1, "TRAYS are MISSING", "read(0, 0) ! 3", "read(1, 0) ! 3", "read(2, 0) ! 3", "read(3, 0) ! 3", "write(0, 0, 1) ! 3", "write(3, 0, 1) ! 3",
            "pour(0, 0, 0, 0, 0) ! 3", "copyCounts(0) ! 3", "tally(3) ! 3", "sure(0) ! 3", "ask(3) ! 3");
        Rows.test(1, "an ASSEMBLY of nobody", "many(0) = 0", "many(1) = 0", "many(2) = 0", "many(3) = 0", "many(4) = 50", "many(5) = 9", "many(6) = 1",
            "many(7) = 10", "many(8) = 0", "many(9) = 0", "many(10) = 0", "many(11) = 0", "many(12) = 0", "many(13) = 0", "many(14) = 0", "many(15) = 0");
        Rows.test(1, "nobody is there to be asked", "member(0, 0) ! 2", "motion(0, 0) ! 2", "room(0, 0) ! 2", "counts(0) ! 2", "power(0) ! 2", "bells(0) ! 2",
            "margin(0) ! 2", "walk(0, 0) ! 2", "die(0) ! 2", "fall(0, true) ! 2", "hide(0, true) ! 2", "carry(0, 0) ! 2", "join(0, 0) ! 2", "side(0, 0, 0) ! 2",
            "yardsIn(0, 0) ! 2", "firstIn(0) ! 2", "carriedIn(0) ! 2", "reign(0, 1) ! 2", "fewest(0) ! 2", "fewestSet(0) ! 2", "cheapest(0) ! 2",
            "cheapestSet(0) ! 2", "powerBy(0, 0) ! 2", "game(0, 0, 0) ! 2", "moveOf(0, 0, 1) ! 2", "swings(0) ! 2", "share(0) ! 2", "farFor(0) ! 2");
        Rows.test(1, "an ASSEMBLY of nobody goes on", "powerOf(0) = 0", "governs() ! 8", "governsIn(0) ! 8", "governsIn(600) ! 8", "emptyIn() = 0", "year() = 0",
            "winning() = 0", "wins(0) = 0", "lean() = 0", "carriedBy(1, 0, 0) = 0", "seek() ! 8", "seekAt(0) ! 8", "minute(1) = -1", "many(8) = 1");
        Rows.test(1, "no SESSIONS", "live(0) ! 8", "mean(0, 1) ! 8", "lived(0) ! 8");
        Rows.test(1, "no MARKS", "back() ! 8", "mark() = 1", "back() = 0");
        Rows.test(1, "an empty tape", "assembly(1) ! 5", "sessions(1) ! 5", "feed(0, 0, 0, 0, 0) -> 20");
        Rows.test(1, "STATUS 0, the FRACTION 0 by 1, no FAULT told", "status() -> 0", "top() -> 0", "bottom() -> 1", "fault(0) -> -1", "fault(1) -> -1");
    }

    private static void statuses() {
        Rows.test(2, "each STATUS stays until the next call that has one", Rows.HOUSE, "status() -> 0", "read(4, 0) ! 1", "status() -> 1", "status() -> 1",
            "counts(6) ! 2", "status() -> 2", "read(0, 0) ! 3", "status() -> 3", "tray(0, 0, 1) = 1", "status() -> 0", "read(0, 1) ! 4", "status() -> 4",
            "many(16) ! 5", "status() -> 5", "tray(0, 0, -1) ! 6", "status() -> 6", "live(0) ! 8", "status() -> 8", "die(3) ! 9", "status() -> 9",
            "sessions: x ! 2 @ 0", "status() -> 10", "tray(1, 1, 1) = 1", "pour(0, 0, 1, 0, 1) ! 11", "status() -> 11", "governs() = 1", "status() -> 0");
        Rows.test(2, "STATUS 7", "mark() = 1", "mark() = 2", "mark() = 3", "mark() ! 7", "status() -> 7");
        Rows.test(2, "top, bottom, fault, feed have none", "read(4, 0) ! 1", "top() -> 0", "bottom() -> 1", "fault(0) -> -1", "fault(9) -> -1",
            "feed(1, 2, 3, 4, 5) -> 20", "status() -> 1");
        Rows.test(2, "a feed that is too much has none, too", "tape: " + " ".repeat(900), "read(4, 0) ! 1", "feed(0, 0, 0, 0, 0) -> -1", "status() -> 1");
    }

    // The STATUS is the first of the list that holds, whatever the order of the arguments.
    private static void statusOrder() {
        Rows.test(2, "1 ahead of 5, 6", "tray(4, 0, 61) ! 1", "tray(0, 4, -1) ! 1", "tray(-1, -1, -1) ! 1");
        Rows.test(2, "1 ahead of 3, 3 ahead of 4", "write(4, -1, 0) ! 1", "read(-1, -1) ! 1", "write(0, -1, 0) ! 3", "read(0, 60) ! 3");
        Rows.test(2, "2 ahead of 5 and 9", Rows.HOUSE, "member(6, 9) ! 2", "motion(2, 2) ! 2", "room(3, 2) ! 2", "walk(6, 3) ! 2", "carry(6, 1000) ! 2",
            "side(2, 0, 3) ! 2", "side(0, 3, 3) ! 2", "yardsIn(6, 601) ! 2", "reign(3, 0) ! 2", "powerBy(3, 64) ! 2", "game(3, 3, 4) ! 2", "moveOf(3, 3, 0) ! 2");
        Rows.test(2, "5 ahead of 9", Rows.HOUSE, "walk(3, 3) ! 5", "carry(3, 1000) ! 5", "walk(3, 2) ! 9", "carry(3, 999) ! 9");
        Rows.test(2, "5 ahead of 8", Rows.HOUSE, "live(10000) ! 5", "lived(5) ! 5", "mean(10000, 1) ! 5", "mean(0, 21) ! 5", "governsIn(601) ! 5");
    }

    private static void fractions() {
        Rows.test(3, "without a common divisor", Rows.HOUSE, "seek() = 1", "top() -> 45", "bottom() -> 2");
        Rows.test(3, "0 is 0 by 1", Rows.HOUSE, "seek() = 1", "share(0) = 1", "top() -> 0", "bottom() -> 1");
        Rows.test(3, "a call that is refused leaves it", Rows.HOUSE, "seek() = 1", "share(3) ! 2", "mean(0, 1) ! 8", "top() -> 45", "assembly(0) = 0",
            "seek() ! 8", "top() -> 45", "bottom() -> 2");
        Rows.test(3, "the greatest: six ROOMS of 60 MINUTES, ODDS 16 in the last", "assembly: " + Rows.many("room # takes 60 odds 16;", 'a', 6) + " = 0", "seek() = 1",
            "top() -> 210", "bottom() -> 1");
        Rows.test(4, "1 for a whole", Rows.HOUSE, "share(1) = 1", "top() -> 1", "bottom() -> 1");
        Rows.test(4, "the most: ODDS 16 in six ROOMS but 15 in one", "assembly: room a takes 1 odds 15;" + Rows.many("room # takes 60 odds 16;", 'b', 5) + " = 0",
            "seek() = 1", "top() -> 2899", "bottom() -> 19");
        Rows.test(4, "above 0 when nothing was told", "bottom() -> 1", "share(0) ! 2", "bottom() -> 1");
    }

    private static void trays() {
        Rows.test(5, "TRAYS are 0 to 3", "tray(0, 0, 1) = 1", "tray(3, 0, 1) = 1", "tray(-1, 0, 1) ! 1", "tray(4, 0, 1) ! 1", "tray(MIN, 0, 1) ! 1", "tray(MAX, 0, 1) ! 1");
        Rows.test(5, "sorts are 0 to 3", "tray(0, 0, 1) = 1", "tray(0, 3, 1) = 1", "tray(0, -1, 1) ! 1", "tray(0, 4, 1) ! 1", "tray(0, MIN, 1) ! 1", "tray(0, MAX, 1) ! 1");
        Rows.test(5, "0 numbers at least: below is 6", "tray(0, 0, 0) = 1", "tray(0, 0, -1) ! 6", "tray(0, 0, MIN) ! 6");
        Rows.test(5, "60 numbers at most: above is 5", "tray(0, 0, 60) = 1", "tray(0, 0, 61) ! 5", "tray(0, 0, MAX) ! 5", "read(0, 59) = 0", "read(0, 60) ! 4");
        Rows.test(5, "a TRAY of 0 numbers is not MISSING", "tray(2, 1, 0) = 1", "read(2, 0) ! 4", "write(2, 0, 1) ! 4", "pour(2, 0, 2, 0, 0) = 1", "pour(2, 0, 2, 0, 1) ! 4");
        Rows.test(5, "of one number", "tray(1, 2, 1) = 1", "write(1, 0, 7) = 1", "read(1, 0) = 7", "read(1, 1) ! 4");
        Rows.test(5, "all 0, though it was laid ahead", "tray(0, 3, 60) = 1", "write(0, 0, GREATEST) = 1", "write(0, 59, LEAST) = 1", "tray(0, 3, 1) = 1", "read(0, 0) = 0",
            "read(0, 59) ! 4", "tray(0, 3, 60) = 1", "read(0, 0) = 0", "read(0, 59) = 0");
        Rows.test(5, "refused, the old one stays", "tray(0, 1, 2) = 1", "write(0, 1, 300) = 1", "tray(0, 0, 61) ! 5", "tray(0, 0, -1) ! 6", "tray(0, 4, 1) ! 1", "read(0, 1) = 300");
        Rows.test(5, "refused, it is MISSING still", "tray(0, 0, 61) ! 5", "read(0, 0) ! 3", "tray(0, 0, -1) ! 6", "read(0, 0) ! 3");
    }

    private static void writes() {
        Rows.test(6, "no such TRAY", "tray(0, 0, 2) = 1", "tray(3, 0, 2) = 1", "write(-1, 0, 1) ! 1", "write(4, 0, 1) ! 1", "write(MIN, 0, 1) ! 1", "write(MAX, 0, 1) ! 1",
            "write(0, 0, 1) = 1", "write(3, 0, 1) = 1");
        Rows.test(6, "MISSING", "tray(0, 0, 2) = 1", "write(1, 0, 1) ! 3", "write(1, -1, 1) ! 3", "write(1, MAX, 1) ! 3");
        Rows.test(6, "places are 0 to the last", "tray(0, 0, 2) = 1", "write(0, 0, 1) = 1", "write(0, 1, 2) = 1", "write(0, -1, 3) ! 4", "write(0, 2, 3) ! 4", "write(0, MIN, 3) ! 4",
            "write(0, MAX, 3) ! 4", "read(0, 0) = 1", "read(0, 1) = 2");
        Rows.test(6, "the 60th place", "tray(0, 3, 60) = 1", "write(0, 59, 5) = 1", "write(0, 60, 6) ! 4", "read(0, 59) = 5");
        Rows.test(7, "no such TRAY", "tray(0, 0, 2) = 1", "read(-1, 0) ! 1", "read(4, 0) ! 1", "read(MIN, 0) ! 1", "read(MAX, 0) ! 1");
        Rows.test(7, "MISSING", "tray(0, 0, 2) = 1", "read(1, 0) ! 3", "read(1, -1) ! 3", "read(1, MIN) ! 3");
        Rows.test(7, "places are 0 to the last", "tray(0, 0, 2) = 1", "read(0, 0) = 0", "read(0, 1) = 0", "read(0, -1) ! 4", "read(0, 2) ! 4", "read(0, MIN) ! 4", "read(0, MAX) ! 4");
        Rows.test(7, "STATUS tells NONE from -1", "tray(0, 0, 1) = 1", "write(0, 0, -1) = 1", "read(0, 0) = -1", "read(0, 1) ! 4");
    }

    private static void cut(int sort, String v, String as) {
        Rows.test(6, v + " cut to sort " + sort, "tray(2, " + sort + ", 1) = 1", "write(2, 0, " + v + ") = 1", "read(2, 0) = " + as);
    }

    private static void cuts() {
        int[] bits = {8, 16, 32};
        for (int sort = 0; sort < 3; sort++) {
            long most = (1L << bits[sort] - 1) - 1;
            cut(sort, "" + most, "" + most);
            cut(sort, "" + (most + 1), "" + (-most - 1));
            cut(sort, "" + (-most - 1), "" + (-most - 1));
            cut(sort, "" + (-most - 2), "" + most);
            cut(sort, "" + (1L << bits[sort]), "0");
            cut(sort, "" + ((1L << bits[sort]) - 1), "-1");
            cut(sort, "GREATEST", "-1");
            cut(sort, "LEAST", "0");
        }
        cut(3, "GREATEST", "GREATEST");
        cut(3, "LEAST", "LEAST");
        cut(3, "-1", "-1");
        cut(3, "4294967296", "4294967296");
    }

    private static final String[] TWO = {"tray(0, 1, 3) = 1", "tray(1, 1, 2) = 1", "write(0, 0, 10) = 1", "write(0, 1, 11) = 1", "write(0, 2, 12) = 1", "write(1, 0, 20) = 1",
        "write(1, 1, 21) = 1", "tray(2, 2, 3) = 1"};

    private static void testTwo(String title, String... rows) {
        Rows.test(8, title, Rows.join(TWO, rows));
    }

    private static void pours() {
        testTwo("0 numbers, at the first place and behind the last", "pour(0, 0, 1, 0, 0) = 1", "pour(0, 3, 1, 2, 0) = 1", "read(1, 0) = 20", "read(1, 1) = 21");
        testTwo("0 numbers one place farther", "pour(0, 4, 1, 0, 0) ! 4", "pour(0, 0, 1, 3, 0) ! 4", "pour(0, -1, 1, 0, 0) ! 4", "pour(0, 0, 1, -1, 0) ! 4");
        testTwo("as many as there are", "pour(1, 0, 0, 1, 2) = 1", "read(0, 0) = 10", "read(0, 1) = 20", "read(0, 2) = 21");
        testTwo("one more than there are", "pour(1, 0, 0, 0, 3) ! 4", "pour(0, 0, 1, 0, 3) ! 4", "pour(0, 2, 1, 0, 2) ! 4", "pour(0, 0, 1, 1, 2) ! 4");
        testTwo("the last alone", "pour(0, 2, 1, 1, 1) = 1", "read(1, 0) = 20", "read(1, 1) = 12");
        testTwo("all within one", "pour(0, 0, 0, 0, 3) = 1", "read(0, 0) = 10", "read(0, 1) = 11", "read(0, 2) = 12");
        testTwo("forth within one, as they were", "pour(0, 0, 0, 1, 2) = 1", "read(0, 0) = 10", "read(0, 1) = 10", "read(0, 2) = 11");
        testTwo("back within one, as they were", "pour(0, 1, 0, 0, 2) = 1", "read(0, 0) = 11", "read(0, 1) = 12", "read(0, 2) = 12");
        Rows.test(8, "sixty", "tray(0, 3, 60) = 1", "tray(3, 3, 60) = 1", "write(0, 0, LEAST) = 1", "write(0, 59, GREATEST) = 1", "pour(0, 0, 3, 0, 60) = 1", "read(3, 0) = LEAST",
            "read(3, 59) = GREATEST", "pour(0, 0, 3, 0, 61) ! 4", "pour(0, 59, 3, 59, 1) = 1", "pour(0, 60, 3, 60, 0) = 1", "pour(0, 60, 3, 60, 1) ! 4");
    }

    private static void wrongPours() {
        testTwo("1, either TRAY, ahead of all else", "pour(-1, 0, 3, 0, -1) ! 1", "pour(4, 0, 3, 0, -1) ! 1", "pour(3, 0, -1, 0, -1) ! 1", "pour(3, 0, 4, 0, -1) ! 1",
            "pour(MIN, 0, 0, 0, 1) ! 1", "pour(0, 0, MAX, 0, 1) ! 1");
        testTwo("3, either TRAY, ahead of 11, 6, 4", "pour(3, -1, 0, 0, -1) ! 3", "pour(0, -1, 3, 0, -1) ! 3", "pour(3, -1, 3, 0, -1) ! 3");
        testTwo("11 ahead of 6, 4", "pour(0, -1, 2, 0, -1) ! 11", "pour(2, 9, 1, 9, 9) ! 11", "pour(2, 0, 1, 0, 0) ! 11");
        testTwo("6 ahead of 4", "pour(0, -1, 1, -1, -1) ! 6", "pour(0, 9, 1, 0, MIN) ! 6", "pour(0, 0, 1, 0, -1) ! 6");
        testTwo("4: places far off", "pour(0, MIN, 1, 0, 1) ! 4", "pour(0, MAX, 1, 0, 1) ! 4", "pour(0, 0, 1, MIN, 1) ! 4", "pour(0, 0, 1, MAX, 1) ! 4", "pour(0, 1, 1, 1, MAX) ! 4",
            "pour(0, MAX, 1, MAX, MAX) ! 4", "pour(0, MIN, 1, MIN, MAX) ! 4");
    }
}
