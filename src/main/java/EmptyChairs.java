import java.util.Arrays;

/** An assembly that is counted by its empty chairs; ../shared/DOC.md says what each call promises. */
public final class EmptyChairs {
    public static final int NONE = -1;

    private static final int TRAYS = 4;
    private static final int SORTS = 4;
    private static final int MOST_NUMBERS = 60;
    private static final int MOST_BYTES = 900;
    private static final int MOST_SESSION_BYTES = 300;
    private static final int MOST_LETTERS = 8;
    private static final int MOST_DIGITS = 4;

    private static final int MOST_PARTIES = 4;
    private static final int MOST_MEMBERS = 10;
    private static final int MOST_MOTIONS = 5;
    private static final int MOST_ROOMS = 6;
    private static final int MOST_STEPS = 30;
    private static final int MOST_DEPTH = 3;
    private static final int MOST_DONE = 300;
    private static final int MOST_MARKS = 3;

    private static final int DOOR = 0;
    private static final int MOST_YARDS = 999;
    private static final int MOST_YEARS = 99;
    private static final int MOST_SPEED = 99;
    private static final int MOST_PRICE = 99;
    private static final int MOST_TAKES = 60;
    private static final int MOST_ODDS = 16;
    private static final int LAST_MINUTE = 9999;
    private static final int MOST_MINUTES = 600;
    private static final int MOST_STEP_MINUTES = 60;
    private static final int MOST_TIMES = 99;
    private static final int MOST_TURNS = 3;
    private static final int LAST_SEED = 9999;
    private static final int MOST_SEEDS = 20;
    private static final int SPEED_WITHOUT = 5;
    private static final int PRICE_WITHOUT = 10;

    private static final int STAYS = 0;
    private static final int COMES = 1;
    private static final int GOES = 2;

    // What a STATUS tells.
    private static final int NO_TRAY = 1;
    private static final int NO_SUCH_ONE = 2;
    private static final int TRAY_MISSING = 3;
    private static final int NO_PLACE = 4;
    private static final int NO_NUMBER = 5;
    private static final int BELOW_ZERO = 6;
    private static final int ONE_TOO_MANY = 7;
    private static final int THERE_IS_NONE = 8;
    private static final int CANNOT_BE = 9;
    private static final int FAULTY = 10;
    private static final int UNLIKE_SORTS = 11;

    // The kinds of FAULTS.
    private static final int BEGINS_NO_TOKEN = 1;
    private static final int CANNOT_STAND = 2;
    private static final int WRONG_NAME = 3;
    private static final int WRONG_NUMBER = 4;
    private static final int TOLD_ALREADY = 5;
    private static final int OVER_THE_MOST = 6;
    private static final int TOO_DEEP = 7;

    // The words that no NAME may be: the numbers below are their places in this text.
    private static final String KEY_WORDS = "far buried ill bell party member of at speed price dead sick hidden twins motion for against room takes odds minute come go stay die fall any when governs carried yards loop end stop ";
    private static final int KEYS = 34;
    // FAR to BELL are the places of the LAW too.
    private static final int FAR = 0;
    private static final int BURIED = 1;
    private static final int ILL = 2;
    private static final int BELL = 3;
    private static final int PARTY = 4;
    private static final int MEMBER = 5;
    private static final int OF = 6;
    private static final int AT = 7;
    private static final int SPEED = 8;
    private static final int PRICE = 9;
    private static final int DEAD = 10;
    private static final int SICK = 11;
    private static final int HIDDEN = 12;
    private static final int TWINS = 13;
    private static final int MOTION = 14;
    private static final int FOR = 15;
    private static final int AGAINST = 16;
    private static final int ROOM = 17;
    private static final int TAKES = 18;
    private static final int ODDS = 19;
    private static final int MINUTE = 20;
    private static final int COME = 21;
    private static final int GO = 22;
    private static final int STAY = 23;
    private static final int DIE = 24;
    private static final int FALL = 25;
    private static final int ANY = 26;
    private static final int WHEN = 27;
    private static final int GOVERNS = 28;
    private static final int CARRIED = 29;
    private static final int YARDS = 30;
    private static final int LOOP = 31;
    private static final int END = 32;
    private static final int STOP = 33;

    private static final int LAWS = 4;
    private static final int[] LAW_AT_FIRST = {50, 9, 1, 10};
    private static final int[] LAW_LEAST = {1, 0, 0, 1};
    private static final int[] LAW_MOST = {999, 99, 2, 60};

    // What lived() tells, by its places.
    private static final int MISSED = 0;
    private static final int MINUTES = 1;
    private static final int BELLS = 2;
    private static final int DEATHS = 3;
    private static final int LEFT = 4;
    private static final int LIVED_KINDS = 5;

    private int status;
    private long top;
    private long bottom;
    private final Tray[] trays;
    private final Tape tape;
    private final Assembly hall;
    private final Assembly spare;
    private final Assembly[] marks;
    private int markCount;
    private final Scale scale;
    private final Strategy strategy;
    private final Tallies tallies;
    private final AssemblyParser assemblyParser;
    private final ScriptParser scriptParser;
    private final Runner runner;
    private boolean hasLived;
    private final int[] livedRow;
    private final int[] seekOrder;

    public EmptyChairs() {
        status = 0;
        top = 0L;
        bottom = 1L;
        trays = new Tray[TRAYS];
        for (int i = 0; i < TRAYS; i++) {
            trays[i] = new Tray();
        }
        tape = new Tape();
        hall = new Assembly();
        spare = new Assembly();
        marks = new Assembly[MOST_MARKS];
        for (int i = 0; i < MOST_MARKS; i++) {
            marks[i] = new Assembly();
        }
        scale = new Scale(hall);
        strategy = new Strategy(scale, hall);
        tallies = new Tallies(scale);
        assemblyParser = new AssemblyParser(tape, spare);
        scriptParser = new ScriptParser(tape, hall);
        runner = new Runner(scale, hall);
        livedRow = new int[LIVED_KINDS];
        seekOrder = new int[MOST_ROOMS];
    }

    public int status() {
        return status;
    }

    public long top() {
        return top;
    }

    public long bottom() {
        return bottom;
    }

    // ---- how a call ends

    private int answer(int value) {
        status = 0;
        return value;
    }

    private int refuse(int why) {
        status = why;
        return NONE;
    }

    private int answerOrNone(int value) {
        return value == NONE ? refuse(THERE_IS_NONE) : answer(value);
    }

    private boolean done() {
        status = 0;
        return true;
    }

    private boolean deny(int why) {
        status = why;
        return false;
    }

    private boolean tellFraction(long over, long under) {
        long common = greatestDivisor(over, under);
        if (common == 0L) {
            return deny(THERE_IS_NONE);
        }
        top = over / common;
        bottom = under / common;
        return done();
    }

    private static long greatestDivisor(long over, long under) {
        long a = under;
        long b = over;
        // Euclid needs fewer than 100 rounds for any two longs.
        for (int round = 0; round < 100 && b != 0L; round++) {
            long rest = a % b;
            a = b;
            b = rest;
        }
        return a;
    }

    // ---- what there is

    private static boolean isBetween(int value, int least, int most) {
        return value >= least && value <= most;
    }

    private static boolean isTray(int tray) {
        return isBetween(tray, 0, TRAYS - 1);
    }

    private boolean isParty(int party) {
        return party >= 0 && party < hall.parties;
    }

    private boolean isMember(int member) {
        return member >= 0 && member < hall.members;
    }

    private boolean isMotion(int motion) {
        return motion >= 0 && motion < hall.motions;
    }

    private static boolean isSetOf(int set, int many) {
        return set >= 0 && set < 1 << many;
    }

    private void weighNow() {
        weighIn(0);
    }

    private void weighIn(int minutes) {
        scale.load(hall, minutes);
        scale.weigh();
    }

    /** The STATUS of a call that needs a TRAY with so many numbers. */
    private int trayTrouble(int tray, int many) {
        if (!isTray(tray)) {
            return NO_TRAY;
        }
        if (trays[tray].isMissing()) {
            return TRAY_MISSING;
        }
        return trays[tray].length < many ? NO_PLACE : 0;
    }

    /** The STATUS of a call that needs a place of a TRAY. */
    private int placeTrouble(int tray, int place) {
        int trouble = trayTrouble(tray, 0);
        if (trouble != 0) {
            return trouble;
        }
        return isBetween(place, 0, trays[tray].length - 1) ? 0 : NO_PLACE;
    }

    // ---- TRAYS

    public boolean tray(int tray, int sort, int many) {
        if (!isTray(tray) || !isBetween(sort, 0, SORTS - 1)) {
            return deny(NO_TRAY);
        }
        if (many > MOST_NUMBERS) {
            return deny(NO_NUMBER);
        }
        if (many < 0) {
            return deny(BELOW_ZERO);
        }
        trays[tray].lay(sort, many);
        return done();
    }

    public boolean write(int tray, int place, long v) {
        int trouble = placeTrouble(tray, place);
        if (trouble != 0) {
            return deny(trouble);
        }
        trays[tray].put(place, v);
        return done();
    }

    public long read(int tray, int place) {
        int trouble = placeTrouble(tray, place);
        if (trouble != 0) {
            return refuse(trouble);
        }
        status = 0;
        return trays[tray].numbers[place];
    }

    public boolean pour(int tray, int i, int to, int j, int many) {
        if (!isTray(tray) || !isTray(to)) {
            return deny(NO_TRAY);
        }
        Tray from = trays[tray];
        Tray into = trays[to];
        if (from.isMissing() || into.isMissing()) {
            return deny(TRAY_MISSING);
        }
        if (from.sort != into.sort) {
            return deny(UNLIKE_SORTS);
        }
        if (many < 0) {
            return deny(BELOW_ZERO);
        }
        if (!from.holds(i, many) || !into.holds(j, many)) {
            return deny(NO_PLACE);
        }
        System.arraycopy(from.numbers, i, into.numbers, j, many);
        return done();
    }

    // ---- texts

    public int feed(int a, int b, int c, int d, int e) {
        if (!tape.hasSpace()) {
            return NONE;
        }
        tape.append(a);
        tape.append(b);
        tape.append(c);
        tape.append(d);
        tape.append(e);
        return tape.length;
    }

    public int assembly(int n) {
        if (!isBetween(n, 0, tape.length)) {
            return refuse(NO_NUMBER);
        }
        boolean taken = assemblyParser.parse(n);
        tape.length = 0;
        if (!taken) {
            return refuse(FAULTY);
        }
        hall.copyFrom(spare);
        return answer(hall.members);
    }

    public int sessions(int n) {
        if (!isBetween(n, 0, Math.min(tape.length, MOST_SESSION_BYTES))) {
            return refuse(NO_NUMBER);
        }
        boolean taken = scriptParser.parse(n);
        tape.length = 0;
        if (!taken) {
            return refuse(FAULTY);
        }
        hall.script.copyFrom(scriptParser.draft);
        return answer(hall.script.steps);
    }

    public int fault(int what) {
        if (what == 0) {
            return tape.faultKind;
        }
        return what == 1 ? tape.faultPlace : NONE;
    }

    public int many(int what) {
        if (!isBetween(what, 0, 15)) {
            return refuse(NO_NUMBER);
        }
        return answer(what < 9 ? plainMany(what) : weighedMany(what));
    }

    private int plainMany(int what) {
        switch (what) {
            case 0: return hall.parties;
            case 1: return hall.members;
            case 2: return hall.motions;
            case 3: return hall.rooms;
            case 4: return hall.law[FAR];
            case 5: return hall.law[BURIED];
            case 6: return hall.law[ILL];
            case 7: return hall.law[BELL];
            default: return hall.minute;
        }
    }

    private int weighedMany(int what) {
        weighNow();
        switch (what) {
            case 9: return scale.inSet;
            case 10: return hall.deadSet();
            case 11: return hall.sickSet();
            case 12: return scale.carriedSet();
            case 13: return scale.inSet == 0 ? 0 : scale.carriedSet();
            case 14: return scale.allPower();
            default: return hall.rung[MOST_PARTIES];
        }
    }

    public int member(int member, int what) {
        if (!isMember(member)) {
            return refuse(NO_SUCH_ONE);
        }
        Member one = hall.memberAt[member];
        switch (what) {
            case 0: return answer(one.party);
            case 1: return answer(one.yards);
            case 2: return answer(one.speed);
            case 3: return answer(one.price);
            case 4: return answer(one.way);
            case 5: return answerOrNone(one.yearsDead);
            case 6: return answer(one.isSick ? 1 : 0);
            case 7: return answer(one.isHidden ? 1 : 0);
            case 8: return answerOrNone(one.twin);
            default: return refuse(NO_NUMBER);
        }
    }

    public int motion(int motion, int side) {
        if (!isMotion(motion)) {
            return refuse(NO_SUCH_ONE);
        }
        switch (side) {
            case 0: return answer(hall.forSets[motion]);
            case 1: return answer(hall.againstSets[motion]);
            default: return refuse(NO_NUMBER);
        }
    }

    public int room(int room, int what) {
        if (room < 0 || room >= hall.rooms) {
            return refuse(NO_SUCH_ONE);
        }
        switch (what) {
            case 0: return answer(hall.takes[room]);
            case 1: return answer(hall.odds[room]);
            default: return refuse(NO_NUMBER);
        }
    }

    public int counts(int member) {
        if (!isMember(member)) {
            return refuse(NO_SUCH_ONE);
        }
        weighNow();
        return answer(scale.weights[member]);
    }

    public int power(int party) {
        if (!isParty(party)) {
            return refuse(NO_SUCH_ONE);
        }
        weighNow();
        return answer(scale.powers[party]);
    }

    public int powerOf(int parties) {
        if (!isSetOf(parties, hall.parties)) {
            return refuse(NO_NUMBER);
        }
        weighNow();
        return answer(scale.powerOfSet(parties));
    }

    public int governs() {
        weighNow();
        return answerOrNone(scale.governor());
    }

    public int bells(int party) {
        if (!isParty(party)) {
            return refuse(NO_SUCH_ONE);
        }
        return answer(hall.rung[party]);
    }

    public int margin(int motion) {
        if (!isMotion(motion)) {
            return refuse(NO_SUCH_ONE);
        }
        weighNow();
        return answer(scale.marginOf(motion));
    }

    public int copyCounts(int tray) {
        int trouble = trayTrouble(tray, hall.members);
        if (trouble != 0) {
            return refuse(trouble);
        }
        weighNow();
        for (int m = 0; m < hall.members; m++) {
            trays[tray].put(m, scale.weights[m]);
        }
        return answer(hall.members);
    }

    // ---- what is done

    public int minute(int minutes) {
        if (!isBetween(minutes, 1, MOST_MINUTES)) {
            return refuse(NO_NUMBER);
        }
        if (hall.minute + minutes > LAST_MINUTE) {
            return refuse(ONE_TOO_MANY);
        }
        hall.pass(minutes, scale);
        weighNow();
        return answer(scale.governor());
    }

    public boolean walk(int member, int way) {
        if (!isMember(member)) {
            return deny(NO_SUCH_ONE);
        }
        if (!isBetween(way, STAYS, GOES)) {
            return deny(NO_NUMBER);
        }
        Member one = hall.memberAt[member];
        if (one.isDead()) {
            return deny(CANNOT_BE);
        }
        one.way = way;
        return done();
    }

    public int die(int member) {
        if (!isMember(member)) {
            return refuse(NO_SUCH_ONE);
        }
        Member one = hall.memberAt[member];
        if (one.isDead()) {
            return refuse(CANNOT_BE);
        }
        one.perish();
        return answer(hall.members - Integer.bitCount(hall.deadSet()));
    }

    public boolean fall(int member, boolean sick) {
        if (!isMember(member)) {
            return deny(NO_SUCH_ONE);
        }
        Member one = hall.memberAt[member];
        if (one.isDead() || one.isSick == sick) {
            return deny(CANNOT_BE);
        }
        one.isSick = sick;
        return done();
    }

    public boolean hide(int member, boolean is) {
        if (!isMember(member)) {
            return deny(NO_SUCH_ONE);
        }
        Member one = hall.memberAt[member];
        if (one.isHidden == is) {
            return deny(CANNOT_BE);
        }
        one.isHidden = is;
        return done();
    }

    public int carry(int member, int yards) {
        if (!isMember(member)) {
            return refuse(NO_SUCH_ONE);
        }
        if (!isBetween(yards, DOOR, MOST_YARDS)) {
            return refuse(NO_NUMBER);
        }
        Member one = hall.memberAt[member];
        if (one.isDead()) {
            return refuse(CANNOT_BE);
        }
        int before = one.yards;
        one.yards = yards;
        return answer(before);
    }

    public int year() {
        weighNow();
        int lost = 0;
        for (int m = 0; m < hall.members; m++) {
            Member one = hall.memberAt[m];
            if (!one.isDead()) {
                continue;
            }
            one.yearsDead = Math.min(MOST_YEARS, one.yearsDead + 1);
            if (scale.weights[m] > 0 && one.yearsDead > hall.law[BURIED]) {
                lost++;
            }
        }
        return answer(lost);
    }

    public boolean rule(int what, int much) {
        if (!isBetween(what, 0, LAWS - 1) || !isBetween(much, LAW_LEAST[what], LAW_MOST[what])) {
            return deny(NO_NUMBER);
        }
        hall.law[what] = much;
        return done();
    }

    public int join(int member, int party) {
        if (!isMember(member) || !isParty(party)) {
            return refuse(NO_SUCH_ONE);
        }
        Member one = hall.memberAt[member];
        int before = one.party;
        if (before == party) {
            return refuse(CANNOT_BE);
        }
        one.party = party;
        return answer(before);
    }

    public boolean side(int motion, int party, int side) {
        if (!isMotion(motion) || !isParty(party)) {
            return deny(NO_SUCH_ONE);
        }
        if (!isBetween(side, 0, 2)) {
            return deny(NO_NUMBER);
        }
        int bit = 1 << party;
        hall.forSets[motion] = (hall.forSets[motion] & ~bit) | (side == 0 ? bit : 0);
        hall.againstSets[motion] = (hall.againstSets[motion] & ~bit) | (side == 1 ? bit : 0);
        return done();
    }

    // ---- what will be

    public int yardsIn(int member, int minutes) {
        if (!isMember(member)) {
            return refuse(NO_SUCH_ONE);
        }
        if (!isBetween(minutes, 0, MOST_MINUTES)) {
            return refuse(NO_NUMBER);
        }
        return answer(hall.memberAt[member].yardsAfter(minutes));
    }

    public int governsIn(int minutes) {
        if (!isBetween(minutes, 0, MOST_MINUTES)) {
            return refuse(NO_NUMBER);
        }
        weighIn(minutes);
        return answerOrNone(scale.governor());
    }

    public int firstIn(int party) {
        if (!isParty(party)) {
            return refuse(NO_SUCH_ONE);
        }
        for (int t = 0; t <= MOST_MINUTES; t++) {
            weighIn(t);
            if (scale.governor() == party) {
                return answer(t);
            }
        }
        return refuse(THERE_IS_NONE);
    }

    public int carriedIn(int motion) {
        if (!isMotion(motion)) {
            return refuse(NO_SUCH_ONE);
        }
        for (int t = 0; t <= MOST_MINUTES; t++) {
            weighIn(t);
            if (scale.marginOf(motion) > 0) {
                return answer(t);
            }
        }
        return refuse(THERE_IS_NONE);
    }

    public int reign(int party, int minutes) {
        if (!isParty(party)) {
            return refuse(NO_SUCH_ONE);
        }
        if (!isBetween(minutes, 1, MOST_MINUTES)) {
            return refuse(NO_NUMBER);
        }
        int reigned = 0;
        for (int t = 1; t <= minutes; t++) {
            weighIn(t);
            if (scale.governor() == party) {
                reigned++;
            }
        }
        return answer(reigned);
    }

    public int emptyIn() {
        for (int t = 0; t <= MOST_MINUTES; t++) {
            weighIn(t);
            if (scale.inSet == 0) {
                return answer(t);
            }
        }
        return refuse(THERE_IS_NONE);
    }

    // ---- who stays away

    public int fewest(int motion) {
        if (!isMotion(motion)) {
            return refuse(NO_SUCH_ONE);
        }
        int set = strategy.bestAway(hall, motion, false);
        return set == NONE ? refuse(THERE_IS_NONE) : answer(Integer.bitCount(set));
    }

    public int fewestSet(int motion) {
        if (!isMotion(motion)) {
            return refuse(NO_SUCH_ONE);
        }
        return answerOrNone(strategy.bestAway(hall, motion, false));
    }

    public int cheapest(int motion) {
        if (!isMotion(motion)) {
            return refuse(NO_SUCH_ONE);
        }
        int set = strategy.bestAway(hall, motion, true);
        return set == NONE ? refuse(THERE_IS_NONE) : answer(hall.pricesOf(set));
    }

    public int cheapestSet(int motion) {
        if (!isMotion(motion)) {
            return refuse(NO_SUCH_ONE);
        }
        return answerOrNone(strategy.bestAway(hall, motion, true));
    }

    public int powerBy(int party, int members) {
        if (!isParty(party)) {
            return refuse(NO_SUCH_ONE);
        }
        if (!isSetOf(members, hall.members)) {
            return refuse(NO_NUMBER);
        }
        scale.load(hall, 0);
        scale.sendAway(members);
        scale.weigh();
        return answer(scale.powers[party]);
    }

    /** The STATUS of game() and moveOf() by what they are given. */
    private int gameTrouble(int party, int other, int turns, int leastTurns) {
        if (!isParty(party) || !isParty(other)) {
            return NO_SUCH_ONE;
        }
        return party == other || !isBetween(turns, leastTurns, MOST_TURNS) ? NO_NUMBER : 0;
    }

    public int game(int party, int other, int turns) {
        int trouble = gameTrouble(party, other, turns, 0);
        if (trouble != 0) {
            return refuse(trouble);
        }
        return answer(strategy.play(hall, party, other, turns));
    }

    public int moveOf(int party, int other, int turns) {
        int trouble = gameTrouble(party, other, turns, 1);
        if (trouble != 0) {
            return refuse(trouble);
        }
        strategy.play(hall, party, other, turns);
        return answerOrNone(strategy.opening);
    }

    // ---- COALITIONS

    public int winning() {
        weighNow();
        int won = 0;
        for (int set = 0; set < 1 << hall.parties; set++) {
            if (scale.isWinning(set)) {
                won++;
            }
        }
        return answer(won);
    }

    public int wins(int parties) {
        if (!isSetOf(parties, hall.parties)) {
            return refuse(NO_NUMBER);
        }
        weighNow();
        return answer(scale.isWinning(parties) ? 1 : 0);
    }

    public int swings(int party) {
        if (!isParty(party)) {
            return refuse(NO_SUCH_ONE);
        }
        weighNow();
        return answer(scale.swingsOf(party));
    }

    public boolean share(int party) {
        if (!isParty(party)) {
            return deny(NO_SUCH_ONE);
        }
        weighNow();
        int all = 0;
        for (int p = 0; p < hall.parties; p++) {
            all += scale.swingsOf(p);
        }
        return all == 0 ? deny(THERE_IS_NONE) : tellFraction(scale.swingsOf(party), all);
    }

    public int lean() {
        weighNow();
        int leanSets = 0;
        for (int set = 0; set < 1 << hall.parties; set++) {
            if (scale.isLean(set)) {
                leanSets++;
            }
        }
        return answer(leanSets);
    }

    // ---- laws, tallies, chairs

    public int carriedBy(int far, int buried, int ill) {
        if (!isBetween(far, LAW_LEAST[FAR], LAW_MOST[FAR]) || !isBetween(buried, LAW_LEAST[BURIED], LAW_MOST[BURIED])
            || !isBetween(ill, LAW_LEAST[ILL], LAW_MOST[ILL])) {
            return refuse(NO_NUMBER);
        }
        scale.load(hall, 0);
        scale.setLaw(far, buried, ill);
        scale.weigh();
        return answer(scale.carriedSet());
    }

    public int farFor(int motion) {
        if (!isMotion(motion)) {
            return refuse(NO_SUCH_ONE);
        }
        scale.load(hall, 0);
        for (int far = LAW_LEAST[FAR]; far <= LAW_MOST[FAR]; far++) {
            scale.setLaw(far, hall.law[BURIED], hall.law[ILL]);
            scale.weigh();
            if (scale.marginOf(motion) > 0) {
                return answer(far);
            }
        }
        return refuse(THERE_IS_NONE);
    }

    public int tally(int tray) {
        int trouble = trayTrouble(tray, hall.parties);
        if (trouble != 0) {
            return refuse(trouble);
        }
        tallies.reckon(hall, trays[tray]);
        return answer(tallies.ways);
    }

    public int sure(int tray) {
        int trouble = trayTrouble(tray, hall.parties);
        if (trouble != 0) {
            return refuse(trouble);
        }
        tallies.reckon(hall, trays[tray]);
        return tallies.ways == 0 ? refuse(THERE_IS_NONE) : answer(tallies.alwaysAway);
    }

    public int ask(int tray) {
        int trouble = trayTrouble(tray, hall.parties);
        if (trouble != 0) {
            return refuse(trouble);
        }
        tallies.reckon(hall, trays[tray]);
        return tallies.ways < 2 ? refuse(THERE_IS_NONE) : answerOrNone(tallies.bestToAsk(hall));
    }

    public boolean seek() {
        int allOdds = hall.allOdds();
        if (allOdds == 0) {
            return deny(THERE_IS_NONE);
        }
        hall.orderRooms(seekOrder);
        int gone = 0;
        int sum = 0;
        for (int k = 0; k < hall.rooms; k++) {
            int room = seekOrder[k];
            gone += hall.takes[room];
            sum += gone * hall.odds[room];
        }
        return tellFraction(sum, allOdds);
    }

    public int seekAt(int k) {
        if (hall.allOdds() == 0 || k < 0 || k >= hall.rooms) {
            return refuse(THERE_IS_NONE);
        }
        hall.orderRooms(seekOrder);
        return answer(seekOrder[k]);
    }

    // ---- SESSIONS

    public int live(int seed) {
        if (!isBetween(seed, 0, LAST_SEED)) {
            return refuse(NO_NUMBER);
        }
        if (!hall.script.isThere) {
            return refuse(THERE_IS_NONE);
        }
        int stepsDone = runner.run(hall, seed);
        System.arraycopy(runner.told, 0, livedRow, 0, LIVED_KINDS);
        hasLived = true;
        return answer(stepsDone);
    }

    public int lived(int what) {
        if (!isBetween(what, 0, LIVED_KINDS - 1)) {
            return refuse(NO_NUMBER);
        }
        return hasLived ? answer(livedRow[what]) : refuse(THERE_IS_NONE);
    }

    public boolean mean(int seed, int many) {
        if (!isBetween(seed, 0, LAST_SEED) || !isBetween(many, 1, MOST_SEEDS) || seed + many - 1 > LAST_SEED) {
            return deny(NO_NUMBER);
        }
        if (!hall.script.isThere) {
            return deny(THERE_IS_NONE);
        }
        long sum = 0L;
        for (int i = 0; i < many; i++) {
            spare.copyFrom(hall);
            runner.run(spare, seed + i);
            scale.load(spare, 0);
            scale.weigh();
            sum += scale.allPower();
        }
        return tellFraction(sum, many);
    }

    // ---- MARKS

    public int mark() {
        if (markCount >= MOST_MARKS) {
            return refuse(ONE_TOO_MANY);
        }
        marks[markCount].copyFrom(hall);
        markCount++;
        return answer(markCount);
    }

    public int back() {
        if (markCount <= 0) {
            return refuse(THERE_IS_NONE);
        }
        markCount--;
        hall.copyFrom(marks[markCount]);
        return answer(markCount);
    }

    /** A row of numbers of one sort; its space is there from the first, so that no call makes a row. */
    private static final class Tray {
        int sort = NONE;
        int length;
        final long[] numbers = new long[MOST_NUMBERS];

        boolean isMissing() {
            return sort == NONE;
        }

        void lay(int newSort, int many) {
            sort = newSort;
            length = many;
            Arrays.fill(numbers, 0L);
        }

        boolean holds(int place, int many) {
            return place >= 0 && place <= length - many;
        }

        void put(int place, long v) {
            numbers[place] = cut(v);
        }

        private long cut(long v) {
            switch (sort) {
                case 0: return (byte) v;
                case 1: return (short) v;
                case 2: return (int) v;
                default: return v;
            }
        }
    }

    private static final class Member {
        long name;
        int party;
        int yards;
        int speed;
        int price;
        int way;
        int yearsDead;
        int twin;
        boolean isSick;
        boolean isHidden;

        void reset() {
            way = STAYS;
            twin = NONE;
        }

        void copyFrom(Member other) {
            name = other.name;
            party = other.party;
            yards = other.yards;
            speed = other.speed;
            price = other.price;
            way = other.way;
            yearsDead = other.yearsDead;
            twin = other.twin;
            isSick = other.isSick;
            isHidden = other.isHidden;
        }

        boolean isDead() {
            return yearsDead != NONE;
        }

        boolean canWalk() {
            return yearsDead == NONE && !isSick;
        }

        void perish() {
            yearsDead = 0;
            way = STAYS;
        }

        int yardsAfter(int minutes) {
            if (yearsDead != NONE || isSick || way == STAYS) {
                return yards;
            }
            int walked = speed * minutes;
            return way == COMES ? Math.max(DOOR, yards - walked) : Math.min(MOST_YARDS, yards + walked);
        }

        /** At least a MINUTE of its way; tells if it is elsewhere then. */
        boolean walkOn(int minutes) {
            int before = yards;
            yards = yardsAfter(minutes);
            if (way == COMES && yards == DOOR && canWalk()) {
                way = STAYS;
            }
            return yards != before;
        }
    }

    /** The SESSIONS: their STEPS in a row, each with the place of the one behind it (or behind its end). */
    private static final class Script {
        boolean isThere;
        int steps;
        final int[] kind = new int[MOST_STEPS];
        final int[] test = new int[MOST_STEPS];
        final int[] subject = new int[MOST_STEPS];
        final int[] compares = new int[MOST_STEPS];
        final int[] number = new int[MOST_STEPS];
        final int[] next = new int[MOST_STEPS];

        void reset() {
            isThere = false;
            steps = 0;
        }

        void copyFrom(Script other) {
            isThere = other.isThere;
            steps = other.steps;
            System.arraycopy(other.kind, 0, kind, 0, steps);
            System.arraycopy(other.test, 0, test, 0, steps);
            System.arraycopy(other.subject, 0, subject, 0, steps);
            System.arraycopy(other.compares, 0, compares, 0, steps);
            System.arraycopy(other.number, 0, number, 0, steps);
            System.arraycopy(other.next, 0, next, 0, steps);
        }
    }

    private static final class Assembly {
        final int[] law = new int[LAWS];
        int minute;
        // The BELLS of each PARTY; in the last place those for nobody.
        final int[] rung = new int[MOST_PARTIES + 1];
        int parties;
        int members;
        int motions;
        int rooms;
        final long[] partyNames = new long[MOST_PARTIES];
        final Member[] memberAt = new Member[MOST_MEMBERS];
        final long[] motionNames = new long[MOST_MOTIONS];
        final int[] forSets = new int[MOST_MOTIONS];
        final int[] againstSets = new int[MOST_MOTIONS];
        final long[] roomNames = new long[MOST_ROOMS];
        final int[] takes = new int[MOST_ROOMS];
        final int[] odds = new int[MOST_ROOMS];
        final Script script = new Script();

        Assembly() {
            for (int m = 0; m < MOST_MEMBERS; m++) {
                memberAt[m] = new Member();
            }
            System.arraycopy(LAW_AT_FIRST, 0, law, 0, LAWS);
        }

        void reset() {
            System.arraycopy(LAW_AT_FIRST, 0, law, 0, LAWS);
            Arrays.fill(rung, 0);
            minute = 0;
            parties = 0;
            members = 0;
            motions = 0;
            rooms = 0;
            script.reset();
        }

        void copyFrom(Assembly other) {
            System.arraycopy(other.law, 0, law, 0, LAWS);
            System.arraycopy(other.rung, 0, rung, 0, MOST_PARTIES + 1);
            minute = other.minute;
            parties = other.parties;
            members = other.members;
            motions = other.motions;
            rooms = other.rooms;
            System.arraycopy(other.partyNames, 0, partyNames, 0, parties);
            for (int m = 0; m < members; m++) {
                memberAt[m].copyFrom(other.memberAt[m]);
            }
            System.arraycopy(other.motionNames, 0, motionNames, 0, motions);
            System.arraycopy(other.forSets, 0, forSets, 0, motions);
            System.arraycopy(other.againstSets, 0, againstSets, 0, motions);
            System.arraycopy(other.roomNames, 0, roomNames, 0, rooms);
            System.arraycopy(other.takes, 0, takes, 0, rooms);
            System.arraycopy(other.odds, 0, odds, 0, rooms);
            script.copyFrom(other.script);
        }

        private static int find(long name, long[] names, int many) {
            for (int i = 0; i < many; i++) {
                if (names[i] == name) {
                    return i;
                }
            }
            return NONE;
        }

        int findParty(long name) {
            return find(name, partyNames, parties);
        }

        int findMotion(long name) {
            return find(name, motionNames, motions);
        }

        int findMember(long name) {
            for (int m = 0; m < members; m++) {
                if (memberAt[m].name == name) {
                    return m;
                }
            }
            return NONE;
        }

        boolean hasName(long name) {
            return findParty(name) != NONE || findMember(name) != NONE || findMotion(name) != NONE
                || find(name, roomNames, rooms) != NONE;
        }

        int deadSet() {
            int set = 0;
            for (int m = 0; m < members; m++) {
                set |= memberAt[m].isDead() ? 1 << m : 0;
            }
            return set;
        }

        int sickSet() {
            int set = 0;
            for (int m = 0; m < members; m++) {
                set |= memberAt[m].isSick ? 1 << m : 0;
            }
            return set;
        }

        /** Those who can be CALLED, or AWAY. */
        int walkers() {
            return ((1 << members) - 1) & ~deadSet() & ~sickSet();
        }

        int pricesOf(int set) {
            int sum = 0;
            for (int m = 0; m < members; m++) {
                sum += (set >> m & 1) * memberAt[m].price;
            }
            return sum;
        }

        /** So many MINUTES go by: how many BELLS rang. */
        int pass(int minutes, Scale scale) {
            int every = Math.max(1, law[BELL]);
            int rings = 0;
            int left = minutes;
            // Each round takes a MINUTE at least.
            for (int round = 0; round < minutes && left > 0; round++) {
                int toBell = Math.min(left, every - minute % every);
                // If nobody is elsewhere then nobody will be, so all that is left goes by at once.
                int gone = walkAll(toBell) ? toBell : left;
                rings += elapse(gone, every, scale);
                left -= gone;
            }
            return rings;
        }

        private boolean walkAll(int minutes) {
            boolean moved = false;
            for (int m = 0; m < members; m++) {
                moved |= memberAt[m].walkOn(minutes);
            }
            return moved;
        }

        /** So many MINUTES in which all BELLS ring for who governs at their end: how many rang. */
        private int elapse(int minutes, int every, Scale scale) {
            int rings = (minute + minutes) / every - minute / every;
            minute += minutes;
            if (rings > 0) {
                scale.load(this, 0);
                scale.weigh();
                int by = scale.governor();
                rung[by == NONE ? MOST_PARTIES : by] += rings;
            }
            return rings;
        }

        int allOdds() {
            int sum = 0;
            for (int r = 0; r < rooms; r++) {
                sum += odds[r];
            }
            return sum;
        }

        /** The order of SEEK: most ODDS for a MINUTE first, which no exchange of neighbours can better. */
        void orderRooms(int[] order) {
            for (int r = 0; r < rooms; r++) {
                int place = r;
                while (place > 0 && isSoughtAhead(r, order[place - 1])) {
                    order[place] = order[place - 1];
                    place--;
                }
                order[place] = r;
            }
        }

        private boolean isSoughtAhead(int room, int other) {
            return odds[room] * takes[other] > odds[other] * takes[room];
        }
    }

    /** What MEMBERS COUNT where they are, or where they would be, by the law, or by another one. */
    private static final class Scale {
        private Assembly hall;
        private int far;
        private int buried;
        private int ill;
        private int walkers;
        final int[] at = new int[MOST_MEMBERS];
        // What weigh() finds.
        int inSet;
        final int[] weights = new int[MOST_MEMBERS];
        final int[] powers = new int[MOST_PARTIES];

        Scale(Assembly first) {
            hall = first;
        }

        /** All is as it will be in so many MINUTES; what is changed then is seen by the next weigh(). */
        void load(Assembly assembly, int minutes) {
            hall = assembly;
            walkers = 0;
            for (int m = 0; m < hall.members; m++) {
                Member one = hall.memberAt[m];
                at[m] = one.yardsAfter(minutes);
                walkers |= one.canWalk() ? 1 << m : 0;
            }
            setLaw(hall.law[FAR], hall.law[BURIED], hall.law[ILL]);
        }

        void setLaw(int newFar, int newBuried, int newIll) {
            far = newFar;
            buried = newBuried;
            ill = newIll;
        }

        void sendAway(int set) {
            for (int m = 0; m < hall.members; m++) {
                if ((set & walkers & 1 << m) != 0) {
                    at[m] = MOST_YARDS;
                }
            }
        }

        void weigh() {
            inSet = 0;
            for (int m = 0; m < hall.members; m++) {
                inSet |= at[m] == DOOR ? walkers & 1 << m : 0;
            }
            Arrays.fill(powers, 0);
            for (int m = 0; m < hall.members; m++) {
                Member one = hall.memberAt[m];
                boolean hasTwinIn = one.twin != NONE && (inSet >> one.twin & 1) == 1;
                int weight = ownWeight(one, at[m]);
                weights[m] = hasTwinIn ? Math.min(1, weight) : weight;
                powers[one.party] += weights[m];
            }
        }

        private int ownWeight(Member one, int yards) {
            if (one.isHidden) {
                return 0;
            }
            if (one.yearsDead != NONE) {
                return one.yearsDead <= buried ? 2 : 0;
            }
            if (one.isSick) {
                return ill;
            }
            if (yards >= far) {
                return 2;
            }
            return yards > DOOR ? 1 : 0;
        }

        int powerOfSet(int set) {
            int sum = 0;
            for (int p = 0; p < hall.parties; p++) {
                sum += (set >> p & 1) * powers[p];
            }
            return sum;
        }

        int allPower() {
            return powerOfSet((1 << hall.parties) - 1);
        }

        int governor() {
            int first = NONE;
            int most = 0;
            for (int p = 0; p < hall.parties; p++) {
                if (powers[p] > most) {
                    most = powers[p];
                    first = p;
                } else if (powers[p] == most) {
                    first = NONE;
                }
            }
            return first;
        }

        int marginOf(int motion) {
            return powerOfSet(hall.forSets[motion]) - powerOfSet(hall.againstSets[motion]);
        }

        int carriedSet() {
            int set = 0;
            for (int i = 0; i < hall.motions; i++) {
                set |= marginOf(i) > 0 ? 1 << i : 0;
            }
            return set;
        }

        boolean isWinning(int set) {
            return 2 * powerOfSet(set) > allPower();
        }

        int swingsOf(int party) {
            int bit = 1 << party;
            int swung = 0;
            for (int set = 0; set < 1 << hall.parties; set++) {
                if ((set & bit) != 0 && isWinning(set) && !isWinning(set & ~bit)) {
                    swung++;
                }
            }
            return swung;
        }

        boolean isLean(int set) {
            if (!isWinning(set)) {
                return false;
            }
            for (int p = 0; p < hall.parties; p++) {
                if ((set >> p & 1) == 1 && isWinning(set & ~(1 << p))) {
                    return false;
                }
            }
            return true;
        }
    }

    /** FEWEST, CHEAPEST and the GAME. */
    private static final class Strategy {
        private final Scale scale;
        private Assembly hall;
        private int first;
        private int second;
        private int turns;
        // The first's first MOVE in the latest GAME; NONE is nothing.
        int opening = NONE;

        Strategy(Scale scale, Assembly first) {
            this.scale = scale;
            hall = first;
        }

        /** The set by which a MOTION is CARRIED if it is AWAY, the FEWEST or the CHEAPEST; NONE if there is none. */
        int bestAway(Assembly assembly, int motion, boolean byPrice) {
            int walkers = assembly.walkers();
            int best = NONE;
            int bestRank = 0;
            for (int set = 0; set <= walkers; set++) {
                if ((set & ~walkers) != 0) {
                    continue;
                }
                int rank = Integer.bitCount(set) + (byPrice ? (MOST_MEMBERS + 1) * assembly.pricesOf(set) : 0);
                // Weighing is dear: only what would be better is weighed.
                if (best != NONE && rank >= bestRank) {
                    continue;
                }
                scale.load(assembly, 0);
                scale.sendAway(set);
                scale.weigh();
                if (scale.marginOf(motion) > 0) {
                    best = set;
                    bestRank = rank;
                }
            }
            return best;
        }

        int play(Assembly assembly, int party, int other, int allTurns) {
            hall = assembly;
            first = party;
            second = other;
            turns = allTurns;
            opening = NONE;
            scale.load(assembly, 0);
            return valueFrom(0);
        }

        private int valueFrom(int turn) {
            if (turn >= turns) {
                scale.weigh();
                return scale.powers[first] - scale.powers[second];
            }
            // The second's best is the least for the first, so its values are turned round.
            int sign = turn % 2 == 0 ? 1 : -1;
            int mover = turn % 2 == 0 ? first : second;
            int best = 0;
            int bestMove = NONE;
            for (int move = 0; move < 2 * hall.members; move++) {
                Member one = hall.memberAt[move / 2];
                if (one.party != mover || !one.canWalk()) {
                    continue;
                }
                int value = sign * valueOf(move, turn);
                if (bestMove == NONE || value > best) {
                    best = value;
                    bestMove = move;
                }
            }
            int idle = sign * valueFrom(turn + 1);
            if (bestMove == NONE || idle > best) {
                best = idle;
                bestMove = NONE;
            }
            if (turn == 0) {
                opening = bestMove;
            }
            return sign * best;
        }

        private int valueOf(int move, int turn) {
            int member = move / 2;
            int before = scale.at[member];
            scale.at[member] = move % 2 == 0 ? DOOR : MOST_YARDS;
            int value = valueFrom(turn + 1);
            scale.at[member] = before;
            return value;
        }
    }

    /** TALLY, SURE and ASK. */
    private static final class Tallies {
        private final Scale scale;
        int ways;
        int alwaysAway;
        private final int[] waysAway = new int[MOST_MEMBERS];

        Tallies(Scale scale) {
            this.scale = scale;
        }

        void reckon(Assembly hall, Tray tray) {
            int walkers = hall.walkers();
            ways = 0;
            alwaysAway = walkers;
            Arrays.fill(waysAway, 0);
            scale.load(hall, 0);
            for (int set = 0; set <= walkers; set++) {
                if ((set & ~walkers) == 0 && isTallied(hall, walkers, set, tray)) {
                    addWay(hall, set);
                }
            }
        }

        private boolean isTallied(Assembly hall, int walkers, int away, Tray tray) {
            for (int m = 0; m < hall.members; m++) {
                if ((walkers >> m & 1) == 1) {
                    scale.at[m] = (away >> m & 1) == 1 ? MOST_YARDS : DOOR;
                }
            }
            scale.weigh();
            for (int p = 0; p < hall.parties; p++) {
                if (tray.numbers[p] != scale.powers[p]) {
                    return false;
                }
            }
            return true;
        }

        private void addWay(Assembly hall, int away) {
            ways++;
            alwaysAway &= away;
            for (int m = 0; m < hall.members; m++) {
                waysAway[m] += away >> m & 1;
            }
        }

        int bestToAsk(Assembly hall) {
            int walkers = hall.walkers();
            int best = NONE;
            int bestWorst = 0;
            for (int m = 0; m < hall.members; m++) {
                int worst = Math.max(waysAway[m], ways - waysAway[m]);
                if ((walkers >> m & 1) == 1 && (best == NONE || worst < bestWorst)) {
                    best = m;
                    bestWorst = worst;
                }
            }
            return best;
        }
    }

    /** The tape, the TOKENS of a text on it, and the FAULT of the text read latest. */
    private static final class Tape {
        private static final int AT_END = 0;
        private static final int WORD = 1;
        private static final int NUMBER = 2;
        private static final int SIGN = 3;
        private static final int NO_TOKEN = 4;
        // A WORD is told by one number, its letters being 1 to 26.
        private static final long LETTER_BASE = 32L;
        private static final int BEFORE_LETTERS = 'a' - 1;

        int length;
        int faultKind = NONE;
        int faultPlace = NONE;
        // Which key word the TOKEN is, if any; which WORD, 0 if it has too many letters for a NAME.
        int key = NONE;
        long word;
        // What takeNumber(), takeCompares() took.
        int taken;
        int compares;
        private final byte[] bytes = new byte[MOST_BYTES];
        private final long[] keys = new long[KEYS];
        private int end;
        private int place;
        private int behind;
        private int kind;
        private int value;

        Tape() {
            long code = 0L;
            int many = 0;
            for (int i = 0; i < KEY_WORDS.length() && many < KEYS; i++) {
                char sign = KEY_WORDS.charAt(i);
                if (sign == ' ') {
                    keys[many] = code;
                    many++;
                    code = 0L;
                } else {
                    code = code * LETTER_BASE + (sign - BEFORE_LETTERS);
                }
            }
        }

        boolean hasSpace() {
            return length + 20 <= MOST_BYTES;
        }

        void append(int four) {
            for (int shift = 24; shift >= 0 && length < MOST_BYTES; shift -= 8) {
                bytes[length] = (byte) (four >> shift);
                length++;
            }
        }

        void begin(int n) {
            end = n;
            behind = 0;
            faultKind = 0;
            faultPlace = NONE;
            advance();
        }

        void advance() {
            place = behind;
            while (place < end && (bytes[place] == ' ' || bytes[place] == '\n')) {
                place++;
            }
            behind = place;
            key = NONE;
            if (place >= end) {
                kind = AT_END;
            } else if (bytes[place] >= 'a' && bytes[place] <= 'z') {
                readWord();
            } else if (bytes[place] >= '0' && bytes[place] <= '9') {
                readDigits();
            } else {
                readSign();
            }
        }

        private void readWord() {
            kind = WORD;
            word = 0L;
            while (behind < end && bytes[behind] >= 'a' && bytes[behind] <= 'z') {
                word = word * LETTER_BASE + (bytes[behind] - BEFORE_LETTERS);
                behind++;
            }
            if (behind - place > MOST_LETTERS) {
                word = 0L;
            }
            for (int i = 0; i < KEYS; i++) {
                if (keys[i] == word) {
                    key = i;
                }
            }
        }

        private void readDigits() {
            value = 0;
            while (behind < end && bytes[behind] >= '0' && bytes[behind] <= '9') {
                value = value * 10 + (bytes[behind] - '0');
                behind++;
            }
            kind = behind - place > MOST_DIGITS ? NO_TOKEN : NUMBER;
        }

        private void readSign() {
            value = bytes[place];
            behind = place + 1;
            kind = value == ';' || value == '<' || value == '>' || value == '=' ? SIGN : NO_TOKEN;
        }

        boolean isAtEnd() {
            return kind == AT_END;
        }

        boolean isName() {
            return kind == WORD && word != 0L && key == NONE;
        }

        /** The text has a FAULT at this TOKEN; always false, so that who calls can give it on. */
        boolean refuse(int why) {
            faultKind = kind == NO_TOKEN ? BEGINS_NO_TOKEN : why;
            faultPlace = place;
            return false;
        }

        boolean takeKey(int which) {
            if (key != which) {
                return refuse(CANNOT_STAND);
            }
            advance();
            return true;
        }

        boolean skipKey(int which) {
            boolean is = key == which;
            if (is) {
                advance();
            }
            return is;
        }

        boolean takeNumber(int least, int most) {
            if (kind != NUMBER) {
                return refuse(CANNOT_STAND);
            }
            if (value < least || value > most) {
                return refuse(WRONG_NUMBER);
            }
            taken = value;
            advance();
            return true;
        }

        boolean takeClose() {
            if (kind != SIGN || value != ';') {
                return refuse(CANNOT_STAND);
            }
            advance();
            return true;
        }

        boolean takeCompares() {
            if (kind != SIGN || value == ';') {
                return refuse(CANNOT_STAND);
            }
            compares = value;
            advance();
            return true;
        }
    }

    /** Reads the text of an ASSEMBLY; the draft is as it tells if it has no FAULT. */
    private static final class AssemblyParser {
        private final Tape tape;
        private final Assembly draft;
        private int lawsTold;
        // What takeNewName(), takeParty(), takeLoneMember(), takeParties() took.
        private long newName;
        private int found;
        private int set;

        AssemblyParser(Tape tape, Assembly draft) {
            this.tape = tape;
            this.draft = draft;
        }

        boolean parse(int n) {
            draft.reset();
            lawsTold = 0;
            tape.begin(n);
            // Each PART takes bytes, so there are never more PARTS than those.
            for (int parts = 0; parts < MOST_BYTES && !tape.isAtEnd(); parts++) {
                if (!takePart()) {
                    return false;
                }
            }
            return true;
        }

        private boolean takePart() {
            switch (tape.key) {
                case FAR:
                case BURIED:
                case ILL:
                case BELL: return takeLaw(tape.key);
                case PARTY: return takePartyPart();
                case MEMBER: return takeMemberPart() && takeTraits();
                case TWINS: return takeTwinsPart();
                case MOTION: return takeMotionPart();
                case ROOM: return takeRoomPart();
                default: return tape.refuse(CANNOT_STAND);
            }
        }

        private boolean takeLaw(int which) {
            if ((lawsTold >> which & 1) == 1) {
                return tape.refuse(TOLD_ALREADY);
            }
            lawsTold |= 1 << which;
            tape.advance();
            if (!tape.takeNumber(LAW_LEAST[which], LAW_MOST[which])) {
                return false;
            }
            draft.law[which] = tape.taken;
            return tape.takeClose();
        }

        private boolean takePartyPart() {
            if (draft.parties >= MOST_PARTIES) {
                return tape.refuse(OVER_THE_MOST);
            }
            tape.advance();
            if (!takeNewName()) {
                return false;
            }
            draft.partyNames[draft.parties] = newName;
            draft.parties++;
            return tape.takeClose();
        }

        private boolean takeMemberPart() {
            if (draft.members >= MOST_MEMBERS) {
                return tape.refuse(OVER_THE_MOST);
            }
            Member one = draft.memberAt[draft.members];
            one.reset();
            tape.advance();
            if (!takeNewName()) {
                return false;
            }
            one.name = newName;
            if (!tape.takeKey(OF) || !takeParty()) {
                return false;
            }
            one.party = found;
            if (!tape.takeKey(AT) || !tape.takeNumber(DOOR, MOST_YARDS)) {
                return false;
            }
            one.yards = tape.taken;
            return true;
        }

        private boolean takeTraits() {
            Member one = draft.memberAt[draft.members];
            if (!takeTrait(SPEED, 1, MOST_SPEED, SPEED_WITHOUT)) {
                return false;
            }
            one.speed = tape.taken;
            if (!takeTrait(PRICE, 0, MOST_PRICE, PRICE_WITHOUT)) {
                return false;
            }
            one.price = tape.taken;
            if (!takeTrait(DEAD, 0, MOST_YEARS, NONE)) {
                return false;
            }
            one.yearsDead = tape.taken;
            one.isSick = tape.skipKey(SICK);
            one.isHidden = tape.skipKey(HIDDEN);
            draft.members++;
            return tape.takeClose();
        }

        private boolean takeTrait(int which, int least, int most, int without) {
            tape.taken = without;
            return !tape.skipKey(which) || tape.takeNumber(least, most);
        }

        private boolean takeTwinsPart() {
            tape.advance();
            if (!takeLoneMember(NONE)) {
                return false;
            }
            int one = found;
            if (!takeLoneMember(one)) {
                return false;
            }
            draft.memberAt[one].twin = found;
            draft.memberAt[found].twin = one;
            return tape.takeClose();
        }

        private boolean takeMotionPart() {
            int motion = draft.motions;
            if (motion >= MOST_MOTIONS) {
                return tape.refuse(OVER_THE_MOST);
            }
            tape.advance();
            if (!takeNewName() || !tape.takeKey(FOR) || !takeParties(0)) {
                return false;
            }
            draft.motionNames[motion] = newName;
            draft.forSets[motion] = set;
            if (!tape.takeKey(AGAINST) || !takeParties(set)) {
                return false;
            }
            draft.againstSets[motion] = set;
            draft.motions++;
            return tape.takeClose();
        }

        private boolean takeRoomPart() {
            int room = draft.rooms;
            if (room >= MOST_ROOMS) {
                return tape.refuse(OVER_THE_MOST);
            }
            tape.advance();
            if (!takeNewName() || !tape.takeKey(TAKES) || !tape.takeNumber(1, MOST_TAKES)) {
                return false;
            }
            draft.roomNames[room] = newName;
            draft.takes[room] = tape.taken;
            if (!tape.takeKey(ODDS) || !tape.takeNumber(0, MOST_ODDS)) {
                return false;
            }
            draft.odds[room] = tape.taken;
            draft.rooms++;
            return tape.takeClose();
        }

        private boolean takeNewName() {
            if (!tape.isName()) {
                return tape.refuse(CANNOT_STAND);
            }
            if (draft.hasName(tape.word)) {
                return tape.refuse(WRONG_NAME);
            }
            newName = tape.word;
            tape.advance();
            return true;
        }

        private boolean takeParty() {
            if (!tape.isName()) {
                return tape.refuse(CANNOT_STAND);
            }
            found = draft.findParty(tape.word);
            if (found == NONE) {
                return tape.refuse(WRONG_NAME);
            }
            tape.advance();
            return true;
        }

        /** A MEMBER that has no TWIN and is not that one. */
        private boolean takeLoneMember(int not) {
            if (!tape.isName()) {
                return tape.refuse(CANNOT_STAND);
            }
            found = draft.findMember(tape.word);
            if (found == NONE) {
                return tape.refuse(WRONG_NAME);
            }
            if (found == not || draft.memberAt[found].twin != NONE) {
                return tape.refuse(TOLD_ALREADY);
            }
            tape.advance();
            return true;
        }

        /** Any number of PARTIES, none of them twice or among the others. */
        private boolean takeParties(int others) {
            set = 0;
            for (int i = 0; i <= MOST_PARTIES && tape.isName(); i++) {
                int party = draft.findParty(tape.word);
                if (party == NONE) {
                    return tape.refuse(WRONG_NAME);
                }
                if (((set | others) >> party & 1) == 1) {
                    return tape.refuse(TOLD_ALREADY);
                }
                set |= 1 << party;
                tape.advance();
            }
            return true;
        }
    }

    /** Reads the text of SESSIONS; the draft is as it tells if it has no FAULT. */
    private static final class ScriptParser {
        final Script draft = new Script();
        private final Tape tape;
        private final Assembly hall;
        // The STEPS whose end is still to come, and how many these are.
        private final int[] open = new int[MOST_DEPTH];
        private int depth;

        ScriptParser(Tape tape, Assembly hall) {
            this.tape = tape;
            this.hall = hall;
        }

        boolean parse(int n) {
            draft.reset();
            depth = 0;
            tape.begin(n);
            // Each STEP, each end takes bytes, so there are never more than those.
            for (int i = 0; i < MOST_SESSION_BYTES && !tape.isAtEnd(); i++) {
                boolean isEnd = tape.key == END && depth > 0;
                if (isEnd ? !takeEnd() : !takeStep(tape.key)) {
                    return false;
                }
            }
            if (depth > 0) {
                return tape.refuse(CANNOT_STAND);
            }
            draft.isThere = true;
            return true;
        }

        private boolean takeEnd() {
            depth--;
            draft.next[open[depth]] = draft.steps;
            tape.advance();
            return tape.takeClose();
        }

        private static boolean beginsStep(int key) {
            return key >= MINUTE && key <= WHEN || key == LOOP || key == STOP;
        }

        private boolean takeStep(int kind) {
            if (!beginsStep(kind)) {
                return tape.refuse(CANNOT_STAND);
            }
            if (draft.steps >= MOST_STEPS) {
                return tape.refuse(OVER_THE_MOST);
            }
            boolean isBlock = kind == WHEN || kind == LOOP;
            if (isBlock && depth >= MOST_DEPTH) {
                return tape.refuse(TOO_DEEP);
            }
            int step = draft.steps;
            draft.kind[step] = kind;
            draft.next[step] = step + 1;
            draft.steps++;
            if (isBlock) {
                open[depth] = step;
                depth++;
            }
            tape.advance();
            if (!takeRest(kind, step)) {
                return false;
            }
            draft.number[step] = tape.taken;
            return tape.takeClose();
        }

        private boolean takeRest(int kind, int step) {
            switch (kind) {
                case MINUTE: return tape.takeNumber(1, MOST_STEP_MINUTES);
                case LOOP: return tape.takeNumber(1, MOST_TIMES);
                case WHEN: return takeTest(step);
                case ANY:
                case STOP: return true;
                default: return takeName(hall.findMember(tape.word), step);
            }
        }

        private boolean takeTest(int step) {
            int test = tape.key;
            if (test != GOVERNS && test != CARRIED && test != YARDS) {
                return tape.refuse(CANNOT_STAND);
            }
            draft.test[step] = test;
            tape.advance();
            if (test == GOVERNS) {
                return takeName(hall.findParty(tape.word), step);
            }
            if (test == CARRIED) {
                return takeName(hall.findMotion(tape.word), step);
            }
            if (!takeName(hall.findMember(tape.word), step) || !tape.takeCompares()) {
                return false;
            }
            draft.compares[step] = tape.compares;
            return tape.takeNumber(DOOR, MOST_YARDS);
        }

        /** A NAME that has been found to be of that one. */
        private boolean takeName(int found, int step) {
            if (!tape.isName()) {
                return tape.refuse(CANNOT_STAND);
            }
            if (found == NONE) {
                return tape.refuse(WRONG_NAME);
            }
            draft.subject[step] = found;
            tape.advance();
            return true;
        }
    }

    /** LIVES the SESSIONS of an ASSEMBLY. */
    private static final class Runner {
        private final Scale scale;
        private Assembly hall;
        private int draws;
        private int stepsDone;
        private boolean isHalted;
        final int[] told = new int[LIVED_KINDS];

        Runner(Scale scale, Assembly first) {
            this.scale = scale;
            hall = first;
        }

        /** How many STEPS were done; told has the rest. */
        int run(Assembly assembly, int seed) {
            hall = assembly;
            draws = seed;
            stepsDone = 0;
            isHalted = false;
            Arrays.fill(told, 0);
            runSteps(0, hall.script.steps, 0);
            return stepsDone;
        }

        private void runSteps(int from, int to, int depth) {
            if (depth > MOST_DEPTH) {
                return;
            }
            int step = from;
            while (step < to && !isHalted) {
                if (stepsDone >= MOST_DONE) {
                    told[LEFT] = 1;
                    isHalted = true;
                    return;
                }
                stepsDone++;
                runStep(step, depth);
                step = Math.max(step + 1, hall.script.next[step]);
            }
        }

        private void runStep(int step, int depth) {
            Script script = hall.script;
            switch (script.kind[step]) {
                case MINUTE:
                    if (hall.minute + script.number[step] > LAST_MINUTE) {
                        told[MISSED]++;
                    } else {
                        told[MINUTES] += script.number[step];
                        told[BELLS] += hall.pass(script.number[step], scale);
                    }
                    break;
                case ANY:
                    runAny();
                    break;
                case WHEN:
                    if (isTrue(step)) {
                        runSteps(step + 1, script.next[step], depth + 1);
                    }
                    break;
                case LOOP:
                    for (int i = 0; i < script.number[step] && !isHalted; i++) {
                        runSteps(step + 1, script.next[step], depth + 1);
                    }
                    break;
                case STOP:
                    isHalted = true;
                    break;
                default:
                    runTold(script.kind[step], hall.memberAt[script.subject[step]]);
                    break;
            }
        }

        private void runAny() {
            if (hall.members == 0) {
                told[MISSED]++;
                return;
            }
            draws = (draws * 2971 + 10723) % 65536;
            Member one = hall.memberAt[draws / 8 % hall.members];
            runTold(one.way == COMES ? GO : COME, one);
        }

        /** What is told of a MEMBER is done, or MISSED if it is DEAD. */
        private void runTold(int kind, Member one) {
            if (one.isDead()) {
                told[MISSED]++;
                return;
            }
            switch (kind) {
                case COME:
                    one.way = COMES;
                    break;
                case GO:
                    one.way = GOES;
                    break;
                case STAY:
                    one.way = STAYS;
                    break;
                case DIE:
                    one.perish();
                    told[DEATHS]++;
                    break;
                default:
                    one.isSick = !one.isSick;
                    break;
            }
        }

        private boolean isTrue(int step) {
            Script script = hall.script;
            int subject = script.subject[step];
            switch (script.test[step]) {
                case GOVERNS:
                    scale.load(hall, 0);
                    scale.weigh();
                    return scale.governor() == subject;
                case CARRIED:
                    scale.load(hall, 0);
                    scale.weigh();
                    return scale.marginOf(subject) > 0;
                default:
                    return compares(hall.memberAt[subject].yards, script.compares[step], script.number[step]);
            }
        }

        private static boolean compares(int yards, int sign, int number) {
            switch (sign) {
                case '<': return yards < number;
                case '>': return yards > number;
                default: return yards == number;
            }
        }
    }
}
