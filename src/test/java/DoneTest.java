/** Promises 21 and 24 to 33: MINUTES and BELLS, and what is done to MEMBERS, the law and MOTIONS. */
public final class DoneTest {
    public static void main(String[] args) {
        ways();
        bells();
        lastMinute();
        walkers();
        deaths();
        illness();
        hiding();
        carrying();
        years();
        rules();
        joining();
        sides();
        Check.end();
    }

    private static void ways() {
        Check c = Check.of("party a;member b of a at 12;member d of a at 990;member e of a at 10 sick;member f of a at 10 dead 0;member g of a at 7;member h of a at 0;");
        for (int m : new int[] {0, 2, 5}) {
            c.yes("comes", c.x.walk(m, 1));
        }
        c.yes("goes", c.x.walk(1, 2));
        c.is("comes to 0", c.x.member(5, 4), 1);
        c.x.minute(2);
        int[] yards = {2, 999, 10, 10, 7, 0};
        int[] way = {1, 2, 1, 0, 0, 0};
        for (int m = 0; m < 6; m++) {
            c.is("yards " + m, c.x.member(m, 1), yards[m]);
            c.is("way " + m, c.x.member(m, 4), way[m]);
        }
        c.x.minute(1);
        c.is("at the door", c.x.member(0, 1), 0);
        c.is("it stays", c.x.member(0, 4), 0);
        c.is("goes on going", c.x.member(1, 4), 2);
        c.yes("up", c.x.fall(2, false));
        c.x.minute(1);
        c.is("who got up comes", c.x.member(2, 1), 5);
        c.yes("goes", c.x.walk(2, 2));
        c.x.minute(600);
        c.is("999 at most", c.x.member(2, 1), 999);
    }

    private static void bells() {
        Check c = Check.of("bell 3;party a;party b;member d of a at 45;member e of b at 60;");
        c.yes("goes", c.x.walk(0, 2));
        c.no("no such number", c.x.minute(0), 5);
        c.no("below", c.x.minute(-5), 5);
        c.no("above", c.x.minute(601), 5);
        c.is("at 50 both are 2", c.x.minute(1), -1);
        c.is("no bell", c.x.many(15), 0);
        c.x.minute(1);
        c.x.minute(1);
        c.is("the third", c.x.many(15), 1);
        c.yes("comes", c.x.walk(1, 1));
        c.is("60 45 30", c.x.minute(3), 0);
        c.is("a has one", c.x.bells(0), 1);
        c.is("b has none", c.x.bells(1), 0);
        c.is("minutes", c.x.many(8), 6);
        c.x.minute(600);
        c.is("a has many", c.x.bells(0), 201);
        c.yes("another bell", c.x.rule(3, 7));
        c.x.minute(2);
        c.is("608 is none", c.x.bells(0), 201);
        c.x.minute(1);
        c.is("609 is one", c.x.bells(0), 202);
        c.yes("each minute", c.x.rule(3, 1));
        c.x.minute(3);
        c.is("three more", c.x.bells(0), 205);
        c.no("no such party", c.x.bells(2), 2);
        c.no("no such party below", c.x.bells(-1), 2);
    }

    private static void lastMinute() {
        Check c = Check.of("party a;member b of a at 99;");
        for (int i = 0; i < 16; i++) {
            c.is("minutes", c.x.minute(600), 0);
        }
        c.no("above 9,999", c.x.minute(400), 7);
        c.no("a number that can't be comes first", c.x.minute(601), 5);
        c.is("nothing went by", c.x.many(8), 9600);
        c.is("up to 9,999", c.x.minute(399), 0);
        c.is("9,999", c.x.many(8), 9999);
        c.is("all bells", c.x.bells(0), 999);
        c.no("none more", c.x.minute(1), 7);
        c.is("what will be goes on", c.x.governsIn(600), 0);
    }

    private static void walkers() {
        Check c = Check.of(Check.HOUSE);
        for (int way = 2; way >= 0; way--) {
            c.yes("walk", c.x.walk(0, way));
            c.is("way", c.x.member(0, 4), way);
        }
        c.yes("the sick may", c.x.walk(4, 1));
        c.no("no such member", c.x.walk(6, 7), 2);
        c.no("no such member below", c.x.walk(-1, 0), 2);
        c.no("no such way", c.x.walk(3, 3), 5);
        c.no("no such way below", c.x.walk(0, -1), 5);
        c.no("dead", c.x.walk(3, 0), 9);
    }

    private static void deaths() {
        Check c = Check.of(Check.HOUSE);
        c.yes("goes", c.x.walk(1, 2));
        c.is("four live", c.x.die(1), 4);
        c.is("for 0 years", c.x.member(1, 5), 0);
        c.is("stays", c.x.member(1, 4), 0);
        c.is("counts 1 beside its twin", c.x.counts(1), 1);
        c.is("the sick die", c.x.die(4), 3);
        c.is("sick still", c.x.member(4, 6), 1);
        c.is("dead", c.x.many(10), 26);
        c.is("the hidden die", c.x.die(5), 2);
        c.is("hidden still", c.x.counts(5), 0);
        c.no("dead", c.x.die(1), 9);
        c.no("no such member", c.x.die(6), 2);
        c.no("no such member below", c.x.die(-1), 2);
        c.is("then ann", c.x.die(0), 1);
        c.is("no twin is in", c.x.counts(1), 2);
        c.is("the last", c.x.die(2), 0);
    }

    private static void illness() {
        Check c = Check.of(Check.HOUSE);
        c.yes("falls ill", c.x.fall(0, true));
        c.is("sick", c.x.member(0, 6), 1);
        c.is("nobody is in", c.x.many(9), 0);
        c.no("it is so", c.x.fall(0, true), 9);
        c.yes("gets up", c.x.fall(0, false));
        c.is("in again", c.x.many(9), 1);
        c.no("it is so, too", c.x.fall(0, false), 9);
        c.no("dead", c.x.fall(3, true), 9);
        c.no("no such member", c.x.fall(6, true), 2);
        c.no("no such member below", c.x.fall(-1, false), 2);
    }

    private static void hiding() {
        Check c = Check.of(Check.HOUSE);
        c.yes("found", c.x.hide(5, false));
        c.is("counts", c.x.counts(5), 1);
        c.no("it is so", c.x.hide(5, false), 9);
        c.yes("hidden", c.x.hide(3, true));
        c.is("of the dead, too", c.x.counts(3), 0);
        c.is("is told", c.x.member(3, 7), 1);
        c.no("it is so, too", c.x.hide(3, true), 9);
        c.no("no such member", c.x.hide(6, true), 2);
        c.no("no such member below", c.x.hide(-1, true), 2);
    }

    private static void carrying() {
        Check c = Check.of(Check.HOUSE);
        c.x.walk(1, 1);
        c.is("how far it was", c.x.carry(1, 999), 40);
        c.is("is there", c.x.member(1, 1), 999);
        c.is("comes still", c.x.member(1, 4), 1);
        c.is("to the door", c.x.carry(1, 0), 999);
        c.is("comes still", c.x.member(1, 4), 1);
        c.is("the sick, too", c.x.carry(4, 3), 0);
        c.no("above", c.x.carry(1, 1000), 5);
        c.no("below", c.x.carry(1, -1), 5);
        c.no("no such member", c.x.carry(6, 1000), 2);
        c.no("no such member below", c.x.carry(-1, 0), 2);
        c.no("a wrong number of the dead", c.x.carry(3, 1000), 5);
        c.no("the dead", c.x.carry(3, 5), 9);
    }

    private static void years() {
        Check c = Check.of("buried 5;party a;member b of a at 0 dead 5;member d of a at 0 dead 4;member e of a at 0 dead 5 hidden;"
            + "member f of a at 0 dead 5;member g of a at 0;member h of a at 0 dead 99;member i of a at 0 dead 6;twins f g;");
        c.is("b and f count no more", c.x.year(), 2);
        int[] dead = {6, 5, 6, 6, -1, 99, 7};
        for (int m = 0; m < dead.length; m++) {
            if (dead[m] == -1) {
                c.no("lives", c.x.member(m, 5), 8);
            } else {
                c.is("years " + m, c.x.member(m, 5), dead[m]);
            }
        }
        c.is("then d", c.x.year(), 1);
        c.is("then none", c.x.year(), 0);
        c.take("buried 99;party a;member b of a at 0 dead 99;");
        c.is("99 at most", c.x.year(), 0);
        c.is("it counts on", c.x.counts(0), 2);
    }

    private static void rules() {
        Check c = Check.of(Check.HOUSE);
        int[] least = {1, 0, 0, 1};
        int[] most = {999, 99, 2, 60};
        for (int what = 0; what < 4; what++) {
            c.yes("least", c.x.rule(what, least[what]));
            c.is("is told", c.x.many(4 + what), least[what]);
            c.yes("most", c.x.rule(what, most[what]));
            c.no("below", c.x.rule(what, least[what] - 1), 5);
            c.no("above", c.x.rule(what, most[what] + 1), 5);
            c.is("the most stays", c.x.many(4 + what), most[what]);
        }
        c.no("no such rule", c.x.rule(4, 1), 5);
        c.no("no such rule below", c.x.rule(-1, 1), 5);
    }

    private static void joining() {
        Check c = Check.of(Check.HOUSE);
        c.is("from grey", c.x.join(5, 0), 2);
        c.is("is red", c.x.member(5, 0), 0);
        c.is("the dead, too", c.x.join(3, 2), 1);
        c.is("grey has it", c.x.power(2), 3);
        c.is("blue has not", c.x.power(1), 1);
        c.no("it is that", c.x.join(3, 2), 9);
        c.no("no such member", c.x.join(6, 0), 2);
        c.no("no such member below", c.x.join(-1, 0), 2);
        c.no("no such party", c.x.join(0, 3), 2);
        c.no("no such party below", c.x.join(0, -1), 2);
    }

    private static void sides() {
        Check c = Check.of(Check.HOUSE);
        int[][] steps = {{2, 0, 5, 2}, {2, 1, 1, 6}, {2, 1, 1, 6}, {0, 1, 0, 7}, {1, 0, 2, 5}, {2, 2, 2, 1}, {0, 2, 2, 0}, {0, 2, 2, 0}};
        for (int[] s : steps) {
            c.yes("side", c.x.side(0, s[0], s[1]));
            c.is("for", c.x.motion(0, 0), s[2]);
            c.is("against", c.x.motion(0, 1), s[3]);
        }
        c.is("the other stays", c.x.motion(1, 0), 6);
        c.no("no such motion", c.x.side(2, 0, 0), 2);
        c.no("no such motion below", c.x.side(-1, 0, 0), 2);
        c.no("no such party", c.x.side(0, 3, 3), 2);
        c.no("no such party below", c.x.side(0, -1, 0), 2);
        c.no("no such side", c.x.side(0, 0, 3), 5);
        c.no("no such side below", c.x.side(0, 0, -1), 5);
    }
}
