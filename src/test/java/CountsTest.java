/** Promises 13 and 17 to 23: what a MEMBER COUNTS, POWER, by whom it is GOVERNED, what is CARRIED. */
public final class CountsTest {
    public static void main(String[] args) {
        livingOnes();
        deadOnes();
        sickOnes();
        hiddenOnes();
        twins();
        powers();
        governed();
        carriedAndActed();
        copies();
        Check.end();
    }

    private static void weighs(Check c, String what, int... want) {
        for (int m = 0; m < want.length; m++) {
            c.is(what + " " + m, c.x.counts(m), want[m]);
        }
    }

    private static void livingOnes() {
        Check c = Check.of("party a;member b of a at 0;member c of a at 1;member d of a at 49;member e of a at 50;member f of a at 999;");
        weighs(c, "by far 50", 0, 1, 1, 2, 2);
        c.is("in", c.x.many(9), 1);
        c.yes("rule", c.x.rule(0, 1));
        weighs(c, "by far 1", 0, 2, 2, 2, 2);
        c.yes("rule", c.x.rule(0, 999));
        weighs(c, "by far 999", 0, 1, 1, 1, 2);
        c.no("no such member", c.x.counts(5), 2);
        c.no("no such member below", c.x.counts(-1), 2);
    }

    private static void deadOnes() {
        Check c = Check.of("buried 9;party a;member b of a at 0 dead 0;member c of a at 9 dead 9;member d of a at 99 dead 10;member e of a at 0 dead 1 sick;");
        weighs(c, "dead", 2, 2, 0, 2);
        c.is("none of the dead is in", c.x.many(9), 0);
        c.is("dead", c.x.many(10), 15);
        c.is("sick", c.x.many(11), 8);
        c.yes("rule", c.x.rule(1, 0));
        weighs(c, "buried 0", 2, 0, 0, 0);
    }

    private static void sickOnes() {
        Check c = Check.of("party a;member b of a at 0 sick;member c of a at 999 sick;");
        weighs(c, "ill 1", 1, 1);
        c.is("none of the sick is in", c.x.many(9), 0);
        c.yes("rule", c.x.rule(2, 2));
        weighs(c, "ill 2", 2, 2);
        c.yes("rule", c.x.rule(2, 0));
        weighs(c, "ill 0", 0, 0);
    }

    private static void hiddenOnes() {
        Check c = Check.of("ill 2;party a;member b of a at 0 hidden;member c of a at 99 hidden;member d of a at 0 dead 0 hidden;member e of a at 0 sick hidden;");
        weighs(c, "hidden", 0, 0, 0, 0);
        c.is("a hidden one is in", c.x.many(9), 1);
    }

    private static void twins() {
        String four = "ill 2;party a;member b of a at 0;member c of a at 99;member d of a at 5 dead 0;member e of a at 0 hidden;"
            + "member f of a at 0 sick;member g of a at 99 sick;member h of a at 0 dead 1;member i of a at 99;";
        Check c = Check.of(four + "twins b c;twins d e;twins f g;twins h i;");
        weighs(c, "with twins", 0, 1, 1, 0, 2, 2, 2, 2);
        c.x.carry(0, 1);
        weighs(c, "the twin is out", 1, 2, 1, 0);
        c.x.carry(3, 1);
        weighs(c, "the hidden twin is out", 1, 2, 2, 0);
        c.x.carry(1, 0);
        weighs(c, "1 is no more than 1", 1, 0);
        c.x.carry(0, 60);
        weighs(c, "1 at most", 1, 0);
        c.yes("up", c.x.fall(4, false));
        weighs(c, "the sick with a twin in", 1, 0, 2, 0, 0, 1, 2, 2);
    }

    private static void powers() {
        Check c = Check.of(Check.HOUSE);
        c.is("red", c.x.power(0), 1);
        c.is("blue", c.x.power(1), 3);
        c.is("grey", c.x.power(2), 1);
        c.no("no such party", c.x.power(3), 2);
        c.no("no such party below", c.x.power(-1), 2);
        int[] sets = {0, 1, 3, 4, 1, 2, 4, 5};
        for (int set = 0; set < 8; set++) {
            c.is("set " + set, c.x.powerOf(set), sets[set]);
        }
        c.no("a set with what there is none of", c.x.powerOf(8), 5);
        c.no("a set below", c.x.powerOf(-1), 5);
        c.is("all", c.x.many(14), 5);
    }

    private static void governed() {
        Check c = Check.of("party a;party b;party d;member e of b at 5;member f of d at 99;member g of a at 0;");
        c.is("the greatest", c.x.governs(), 2);
        c.x.carry(0, 99);
        c.no("two are the greatest", c.x.governs(), 8);
        c.x.carry(2, 60);
        c.no("three are", c.x.governs(), 8);
        c.x.carry(0, 0);
        c.x.carry(1, 1);
        c.is("the first", c.x.governs(), 0);
        c.x.carry(1, 0);
        c.x.carry(2, 0);
        c.no("none above 0", c.x.governs(), 8);
    }

    private static void carriedAndActed() {
        Check c = Check.of("party a;party b;party d;member e of a at 5;member f of b at 5;member g of d at 5;"
            + "motion m for a against b;motion n for a d against b;motion o for against a;motion p for d against;motion q for against;");
        int[] margins = {0, 1, -1, 1, 0};
        for (int i = 0; i < 5; i++) {
            c.is("margin " + i, c.x.margin(i), margins[i]);
        }
        c.no("no such motion", c.x.margin(5), 2);
        c.no("no such motion below", c.x.margin(-1), 2);
        c.is("carried", c.x.many(12), 10);
        c.is("nobody is in", c.x.many(13), 0);
        c.x.carry(1, 0);
        c.is("carried", c.x.many(12), 11);
        c.is("acted", c.x.many(13), 11);
        c.x.fall(1, true);
        c.is("the sick do not act", c.x.many(13), 0);
    }

    private static void copies() {
        Check c = Check.of(Check.HOUSE);
        c.no("no such tray", c.x.copyCounts(4), 1);
        c.no("no such tray below", c.x.copyCounts(-1), 1);
        c.no("missing", c.x.copyCounts(0), 3);
        c.x.tray(0, 0, 5);
        c.no("too few", c.x.copyCounts(0), 4);
        c.is("nothing came", c.x.read(0, 3), 0);
        c.x.tray(0, 3, 7);
        c.x.write(0, 6, 77);
        c.x.write(0, 0, 77);
        c.is("copy", c.x.copyCounts(0), 6);
        int[] want = {0, 1, 1, 2, 1, 0, 77};
        for (int i = 0; i < want.length; i++) {
            c.is("place " + i, c.x.read(0, i), want[i]);
        }
        c.take("");
        c.x.tray(1, 0, 0);
        c.is("nobody", c.x.copyCounts(1), 0);
    }
}
