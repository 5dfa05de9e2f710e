/** Promises 59 to 61: SESSIONS, LIVED by draws. */
public final class SessionsTest {
    public static void main(String[] args) {
        troubles();
        steps();
        tests();
        deepTests();
        missed();
        loops();
        limit();
        stops();
        draws();
        livedStays();
        means();
        Check.end();
    }

    private static void lived(Check c, int done, int... want) {
        String[] names = {"missed", "minutes", "bells", "deaths", "left"};
        for (int what = 0; what < 5; what++) {
            c.is("lived " + names[what], c.x.lived(what), want[what]);
        }
        Check.same("steps", done, want[5]);
    }

    private static void troubles() {
        Check c = Check.of(Check.HOUSE);
        c.no("no sessions", c.x.live(0), 8);
        c.no("a wrong seed first", c.x.live(-1), 5);
        c.no("above", c.x.live(10000), 5);
        c.no("not lived", c.x.lived(0), 8);
        c.no("a wrong number first", c.x.lived(5), 5);
        c.no("below", c.x.lived(-1), 5);
        c.no("no mean", c.x.mean(0, 1), 8);
        c.no("a wrong seed first", c.x.mean(-1, 1), 5);
        c.no("a wrong many", c.x.mean(0, 0), 5);
        c.no("too many", c.x.mean(0, 21), 5);
        c.takeSessions("minute 1;", 1);
        c.no("not lived by sessions", c.x.lived(0), 8);
        c.yes("mean", c.x.mean(9999, 1));
        c.no("not lived by mean", c.x.lived(0), 8);
        c.no("the last is above", c.x.mean(9999, 2), 5);
        c.no("far above", c.x.mean(Integer.MAX_VALUE, 20), 5);
        c.yes("mean of 20", c.x.mean(9980, 20));
        c.is("live", c.x.live(9999), 1);
        c.no("a wrong seed", c.x.live(10000), 5);
        c.is("lived of the latest that was", c.x.lived(1), 1);
    }

    private static void steps() {
        Check c = Check.of(Check.HOUSE);
        c.takeSessions("go ann; come bob;come cid ; minute 3;stay ann;fall eve;fall fay;minute 9;fall cid;die bob;", 10);
        int done = c.x.live(5);
        lived(c, done, 0, 12, 3, 1, 0, 10);
        int[] yards = {15, 0, 0, 60, 0, 10};
        int[] sick = {0, 0, 1, 0, 0, 1};
        for (int m = 0; m < 6; m++) {
            c.is("yards " + m, c.x.member(m, 1), yards[m]);
            c.is("way " + m, c.x.member(m, 4), 0);
            c.is("sick " + m, c.x.member(m, 6), sick[m]);
        }
        c.is("bob is dead", c.x.member(1, 5), 0);
        c.is("minutes", c.x.many(8), 12);
        // At 4, 8 and 12: red ann 1, bob 1 and 0; blue cid 0 and dot 2; grey eve, up and in, 0, fay hidden.
        c.is("bells of blue", c.x.bells(1), 3);
    }

    private static void tests() {
        Check c = Check.of(Check.HOUSE);
        c.takeSessions("when governs blue;go ann;end;when governs red;die ann;end;when carried war;go bob;end;"
            + "when carried bread;die bob;end;when yards cid<20;die cid;end;when yards cid=20;go cid;end;when yards cid>20;die cid;end;"
            + "when yards dot>59;go fay;end;", 16);
        lived(c, c.x.live(0), 0, 0, 0, 0, 0, 12);
        for (int m : new int[] {0, 1, 2, 5}) {
            c.is("goes", c.x.member(m, 4), 2);
        }
    }

    private static void deepTests() {
        Check c = Check.of("party a;party b;member d of a at 5;member e of b at 5;motion m for a against b;motion n for a against;");
        c.takeSessions("loop 2;loop 3;when carried n;minute 1;end;when carried m;die d;end;end;end;", 6);
        // 1 loop, 2 more, 6 times a when with a minute and a when.
        lived(c, c.x.live(0), 0, 6, 0, 0, 0, 21);
    }

    private static void missed() {
        Check c = Check.of(Check.HOUSE);
        c.takeSessions("come dot;go dot;stay dot;fall dot;die dot;die ann;die ann;", 7);
        lived(c, c.x.live(0), 6, 0, 0, 1, 0, 7);
        c.is("not sick", c.x.member(3, 6), 0);
        c.is("years", c.x.member(3, 5), 5);
        c.take("party a;");
        c.takeSessions("any;loop 3;any;end;", 3);
        lived(c, c.x.live(0), 4, 0, 0, 0, 0, 5);
        c.take("bell 7;party a;");
        c.takeSessions("loop 99;minute 60;end;", 2);
        lived(c, c.x.live(0), 0, 5940, 848, 0, 0, 100);
        lived(c, c.x.live(0), 32, 4020, 574, 0, 0, 100);
        c.is("up to 9,960", c.x.many(8), 9960);
        c.takeSessions("minute 40;minute 39;minute 1;", 3);
        lived(c, c.x.live(0), 2, 39, 6, 0, 0, 3);
        c.is("9,999", c.x.many(8), 9999);
        c.is("bells for nobody", c.x.many(15), 1428);
    }

    private static void loops() {
        Check c = Check.of(Check.HOUSE);
        c.takeSessions("loop 3;minute 1;loop 2;minute 2;end;end;loop 99;end;when yards ann=5;any;end;", 7);
        // 1 loop, 3 times a minute, a loop and two minutes; a loop; a when.
        lived(c, c.x.live(0), 0, 15, 3, 0, 0, 15);
        c.takeSessions("loop 99;loop 99;end;end;", 2);
        lived(c, c.x.live(0), 0, 0, 0, 0, 0, 100);
    }

    private static void limit() {
        Check c = Check.of(Check.HOUSE);
        c.takeSessions("loop 99;fall ann;fall ann;end;any;any;", 5);
        lived(c, c.x.live(0), 0, 0, 0, 0, 0, 201);
        // 1 and 99 times 3 are 298, and two more.
        c.takeSessions("loop 99;fall ann;fall ann;fall ann;end;fall bob;fall cid;", 6);
        lived(c, c.x.live(0), 0, 0, 0, 0, 0, 300);
        c.takeSessions("loop 99;fall ann;fall ann;fall ann;end;fall bob;fall cid;die cid;", 7);
        lived(c, c.x.live(0), 0, 0, 0, 0, 1, 300);
        c.no("cid lives", c.x.member(2, 5), 8);
        // The 300th is a when that is false, or the last of a loop that is not over.
        c.takeSessions("loop 99;fall ann;fall ann;fall ann;end;fall bob;when yards dot=0;any;end;", 7);
        lived(c, c.x.live(0), 0, 0, 0, 0, 0, 300);
        c.takeSessions("loop 99;fall ann;fall ann;fall ann;end;fall bob;when yards dot=60;any;end;", 7);
        lived(c, c.x.live(0), 0, 0, 0, 0, 1, 300);
        c.takeSessions("loop 99;fall ann;fall ann;fall ann;end;fall bob;loop 99;end;", 6);
        lived(c, c.x.live(0), 0, 0, 0, 0, 0, 300);
        c.takeSessions("loop 99;loop 99;minute 1;end;end;", 3);
        lived(c, c.x.live(0), 0, 296, 74, 0, 1, 300);
        c.takeSessions("loop 99;fall ann;fall ann;fall ann;end;fall bob;fall bob;stop;", 7);
        lived(c, c.x.live(0), 0, 0, 0, 0, 1, 300);
    }

    private static void stops() {
        Check c = Check.of(Check.HOUSE);
        c.takeSessions("loop 5;minute 1;when yards ann=0;stop;end;end;die ann;", 5);
        lived(c, c.x.live(0), 0, 1, 0, 0, 0, 4);
        c.no("ann lives", c.x.member(0, 5), 8);
    }

    private static int next(int s) {
        return (s * 2971 + 10723) % 65536;
    }

    private static void draws() {
        for (int seed : new int[] {0, 1, 7, 4242, 9999}) {
            Check c = Check.of(Check.HOUSE);
            c.takeSessions("any;any;any;any;any;any;any;any;", 8);
            int done = c.x.live(seed);
            int[] way = new int[6];
            int dead = 0;
            int s = seed;
            for (int i = 0; i < 8; i++) {
                s = next(s);
                int m = s / 8 % 6;
                if (m == 3) {
                    dead++;
                } else {
                    way[m] = way[m] == 1 ? 2 : 1;
                }
            }
            lived(c, done, dead, 0, 0, 0, 0, 8);
            for (int m = 0; m < 6; m++) {
                c.is("way of " + m + " by " + seed, c.x.member(m, 4), way[m]);
            }
        }
        Check c = Check.of("party a;member b of a at 5;");
        c.takeSessions("any;", 1);
        c.x.walk(0, 2);
        c.x.live(0);
        c.is("who goes comes", c.x.member(0, 4), 1);
        c.x.live(0);
        c.is("who comes goes", c.x.member(0, 4), 2);
        c.x.fall(0, true);
        c.x.live(0);
        c.is("the sick, too", c.x.member(0, 4), 1);
    }

    private static void livedStays() {
        Check c = Check.of(Check.HOUSE);
        c.takeSessions("minute 7;die ann;", 2);
        c.x.mark();
        c.x.live(0);
        c.take("party a;");
        c.no("no sessions", c.x.live(0), 8);
        c.is("of the latest, still", c.x.lived(1), 7);
        c.is("back", c.x.back(), 0);
        c.is("of the latest, back or not", c.x.lived(3), 1);
        c.no("ann lives", c.x.member(0, 5), 8);
        c.is("the sessions are back", c.x.live(0), 2);
    }

    // One MEMBER of two goes by the draw, and counts 1 if it is b, 2 if it is d, which is fast.
    private static void means() {
        Check c = Check.of("party a;member b of a at 0 speed 1;member d of a at 0 speed 99;");
        c.takeSessions("any;any;any;minute 1;", 4);
        int sum = 0;
        for (int seed = 30; seed < 45; seed++) {
            int[] way = new int[2];
            int s = seed;
            for (int i = 0; i < 3; i++) {
                s = next(s);
                int m = s / 8 % 2;
                way[m] = way[m] == 1 ? 2 : 1;
            }
            sum += (way[0] == 2 ? 1 : 0) + (way[1] == 2 ? 2 : 0);
        }
        c.yes("mean", c.x.mean(30, 15));
        Check.same("top by bottom", c.x.top() * 15, sum * c.x.bottom());
        Check.same("no common divisor", java.math.BigInteger.valueOf(c.x.top()).gcd(java.math.BigInteger.valueOf(c.x.bottom())).intValue(), 1);
        Check.same("not all alike", sum > 0 && sum < 45 ? 1 : 0, 1);
        c.is("all stays as it is", c.x.many(8), 0);
        c.is("all stays as it is, too", c.x.many(14), 0);
        c.take(Check.HOUSE);
        c.takeSessions("die ann;", 1);
        // ann dead counts 2, and bob at 40, without a twin that is in, 2.
        c.fraction("the same by all", c.x.mean(0, 20), 8, 1);
        c.is("ann lives", c.x.many(10), 8);
        c.take("");
        c.takeSessions("minute 1;", 1);
        c.fraction("no power", c.x.mean(0, 3), 0, 1);
    }
}
