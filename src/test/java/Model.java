import java.util.ArrayList;
import java.util.HashMap;
import java.util.LinkedHashMap;
import java.util.List;
import java.util.Map;
import java.util.Set;

/**
 * A second EmptyChairs, written from the document alone, as slow and as plain as can be: every MINUTE is walked,
 * every order of ROOMS and every set is tried, every what-if is a copy of all. OracleTest compares the two.
 */
final class Model {
    static final int NONE = -1;
    static final Set<String> RESERVED = Set.of("far", "buried", "ill", "bell", "party", "member", "of", "at", "speed",
        "price", "dead", "sick", "hidden", "twins", "motion", "for", "against", "room", "takes", "odds", "minute", "come",
        "go", "stay", "die", "fall", "any", "when", "governs", "carried", "yards", "loop", "end", "stop");

    static final class Person implements Cloneable {
        String name;
        int party, yards, speed = 5, price = 10, way, dead = NONE, twin = NONE;
        boolean sick, hidden;

        boolean able() {
            return dead == NONE && !sick;
        }

        Person copy() {
            try {
                return (Person) clone();
            } catch (CloneNotSupportedException e) {
                throw new IllegalStateException(e);
            }
        }
    }

    static final class Step {
        String word, test, compares;
        int subject, number;
        List<Step> inner;
    }

    static final class World {
        int far = 50, buried = 9, ill = 1, bell = 10, minute, nobody;
        List<String> parties = new ArrayList<>();
        int[] rung = new int[4];
        List<Person> people = new ArrayList<>();
        List<String> motions = new ArrayList<>();
        List<int[]> sides = new ArrayList<>();
        List<String> rooms = new ArrayList<>();
        List<int[]> chairs = new ArrayList<>();
        List<Step> steps;

        World copy() {
            World w = new World();
            w.far = far;
            w.buried = buried;
            w.ill = ill;
            w.bell = bell;
            w.minute = minute;
            w.nobody = nobody;
            w.parties = new ArrayList<>(parties);
            w.rung = rung.clone();
            for (Person p : people) w.people.add(p.copy());
            w.motions = new ArrayList<>(motions);
            for (int[] s : sides) w.sides.add(s.clone());
            w.rooms = rooms;
            w.chairs = chairs;
            w.steps = steps;
            return w;
        }

        boolean isIn(int m) {
            Person p = people.get(m);
            return p.able() && p.yards == 0;
        }

        int weight(int m) {
            Person p = people.get(m);
            int c;
            if (p.hidden) c = 0;
            else if (p.dead != NONE) c = p.dead > buried ? 0 : 2;
            else if (p.sick) c = ill;
            else if (p.yards == 0) c = 0;
            else c = p.yards < far ? 1 : 2;
            if (p.twin != NONE && isIn(p.twin) && c == 2) c = 1;
            return c;
        }

        int powerOfSet(int set) {
            int sum = 0;
            for (int m = 0; m < people.size(); m++) if ((set >> people.get(m).party & 1) != 0) sum += weight(m);
            return sum;
        }

        int governor() {
            int best = NONE;
            for (int p = 0; p < parties.size(); p++) {
                boolean over = powerOfSet(1 << p) > 0;
                for (int q = 0; q < parties.size(); q++) if (q != p && powerOfSet(1 << q) >= powerOfSet(1 << p)) over = false;
                if (over) best = p;
            }
            return best;
        }

        boolean carried(int motion) {
            return powerOfSet(sides.get(motion)[0]) > powerOfSet(sides.get(motion)[1]);
        }

        int carriedSet() {
            int set = 0;
            for (int i = 0; i < motions.size(); i++) if (carried(i)) set += 1 << i;
            return set;
        }

        int inSet() {
            int set = 0;
            for (int m = 0; m < people.size(); m++) if (isIn(m)) set += 1 << m;
            return set;
        }

        int goMinute() {
            for (Person p : people) {
                if (!p.able()) continue;
                if (p.way == 1) {
                    p.yards -= p.speed;
                    if (p.yards <= 0) {
                        p.yards = 0;
                        p.way = 0;
                    }
                } else if (p.way == 2) {
                    p.yards += p.speed;
                    if (p.yards > 999) p.yards = 999;
                }
            }
            minute++;
            if (minute % bell != 0) return 0;
            int g = governor();
            if (g == NONE) nobody++;
            else rung[g]++;
            return 1;
        }

        World later(int minutes) {
            World w = copy();
            for (int i = 0; i < minutes; i++) w.goMinute();
            return w;
        }

        World moved(int m, int yards) {
            World w = copy();
            if (w.people.get(m).able()) w.people.get(m).yards = yards;
            return w;
        }

        World away(int set) {
            World w = this;
            for (int m = 0; m < people.size(); m++) if ((set >> m & 1) == 1) w = w.moved(m, 999);
            return w;
        }

        int all() {
            return powerOfSet(15);
        }

        boolean winsSet(int set) {
            return powerOfSet(set) * 2 > all();
        }
    }

    static final class Wrong extends RuntimeException {
        final int kind, place;

        Wrong(int kind, int place) {
            this.kind = kind;
            this.place = place;
        }
    }

    record Token(String text, int place, int kind) { } // kind 0 end, 1 word, 2 number, 3 sign, 9 no token

    static final class Reader {
        final List<Token> tokens = new ArrayList<>();
        int i;

        Reader(byte[] bytes, int n) {
            StringBuilder b = new StringBuilder();
            for (int k = 0; k < n; k++) b.append((char) (bytes[k] & 255));
            String s = b.toString();
            java.util.regex.Matcher t = java.util.regex.Pattern.compile("[ \\n]+|([a-z]+)|([0-9]+)|([;<>=])|([\\x00-\\xff])",
                java.util.regex.Pattern.DOTALL).matcher(s);
            while (t.find()) {
                if (t.group(1) != null) tokens.add(new Token(t.group(), t.start(), 1));
                else if (t.group(2) != null) tokens.add(new Token(t.group(), t.start(), t.group().length() > 4 ? 9 : 2));
                else if (t.group(3) != null) tokens.add(new Token(t.group(), t.start(), 3));
                else if (t.group(4) != null) tokens.add(new Token(t.group(), t.start(), 9));
            }
            tokens.add(new Token("", n, 0));
        }

        Token now() {
            return tokens.get(i);
        }

        Wrong wrong(int kind) {
            return new Wrong(now().kind == 9 ? 1 : kind, now().place);
        }

        boolean at(String word) {
            return (now().kind == 1 || now().kind == 3) && now().text.equals(word);
        }

        void need(String word) {
            if (!at(word)) throw wrong(2);
            i++;
        }

        int number(int least, int most) {
            if (now().kind != 2) throw wrong(2);
            int v = Integer.parseInt(now().text);
            if (v < least || v > most) throw wrong(4);
            i++;
            return v;
        }

        boolean atName() {
            return now().kind == 1 && now().text.length() <= 8 && !RESERVED.contains(now().text);
        }

        String peekName() {
            if (!atName()) throw wrong(2);
            return now().text;
        }

        int known(Map<String, Integer> things) {
            Integer which = things.get(peekName());
            if (which == null) throw wrong(3);
            return which;
        }
    }

    static Map<String, Integer> index(List<String> names) {
        Map<String, Integer> map = new HashMap<>();
        for (int i = 0; i < names.size(); i++) map.put(names.get(i), i);
        return map;
    }

    static List<String> names(World w) {
        List<String> names = new ArrayList<>();
        for (Person p : w.people) names.add(p.name);
        return names;
    }

    static String fresh(Reader r, World w) {
        String name = r.peekName();
        if (w.parties.contains(name) || names(w).contains(name) || w.motions.contains(name) || w.rooms.contains(name)) throw r.wrong(3);
        r.i++;
        return name;
    }

    static World readWorld(Reader r) {
        World w = new World();
        Map<String, Integer> told = new LinkedHashMap<>();
        while (r.now().kind != 0) {
            String word = r.now().kind == 1 ? r.now().text : "";
            if (word.equals("far") || word.equals("buried") || word.equals("ill") || word.equals("bell")) {
                if (told.put(word, 1) != null) throw r.wrong(5);
                r.i++;
                if (word.equals("far")) w.far = r.number(1, 999);
                if (word.equals("buried")) w.buried = r.number(0, 99);
                if (word.equals("ill")) w.ill = r.number(0, 2);
                if (word.equals("bell")) w.bell = r.number(1, 60);
            } else if (word.equals("party")) {
                if (w.parties.size() == 4) throw r.wrong(6);
                r.i++;
                w.parties.add(fresh(r, w));
            } else if (word.equals("member")) {
                readPerson(r, w);
            } else if (word.equals("twins")) {
                r.i++;
                int a = r.known(index(names(w)));
                if (w.people.get(a).twin != NONE) throw r.wrong(5);
                r.i++;
                int b = r.known(index(names(w)));
                if (a == b || w.people.get(b).twin != NONE) throw r.wrong(5);
                r.i++;
                w.people.get(a).twin = b;
                w.people.get(b).twin = a;
            } else if (word.equals("motion")) {
                if (w.motions.size() == 5) throw r.wrong(6);
                r.i++;
                String name = fresh(r, w);
                int[] sides = new int[2];
                for (int side = 0; side < 2; side++) {
                    r.need(side == 0 ? "for" : "against");
                    while (r.atName()) {
                        int p = r.known(index(w.parties));
                        if (((sides[0] | sides[1]) >> p & 1) == 1) throw r.wrong(5);
                        sides[side] |= 1 << p;
                        r.i++;
                    }
                }
                w.motions.add(name);
                w.sides.add(sides);
            } else if (word.equals("room")) {
                if (w.rooms.size() == 6) throw r.wrong(6);
                r.i++;
                String name = fresh(r, w);
                r.need("takes");
                int takes = r.number(1, 60);
                r.need("odds");
                w.chairs.add(new int[] {takes, r.number(0, 16)});
                w.rooms.add(name);
            } else {
                throw r.wrong(2);
            }
            r.need(";");
        }
        return w;
    }

    static void readPerson(Reader r, World w) {
        if (w.people.size() == 10) throw r.wrong(6);
        r.i++;
        Person p = new Person();
        p.name = fresh(r, w);
        r.need("of");
        p.party = r.known(index(w.parties));
        r.i++;
        r.need("at");
        p.yards = r.number(0, 999);
        if (r.at("speed")) {
            r.i++;
            p.speed = r.number(1, 99);
        }
        if (r.at("price")) {
            r.i++;
            p.price = r.number(0, 99);
        }
        if (r.at("dead")) {
            r.i++;
            p.dead = r.number(0, 99);
        }
        if (r.at("sick")) {
            r.i++;
            p.sick = true;
        }
        if (r.at("hidden")) {
            r.i++;
            p.hidden = true;
        }
        w.people.add(p);
    }

    static List<Step> readSteps(Reader r, World w, int depth, int[] many) {
        List<Step> steps = new ArrayList<>();
        while (r.now().kind != 0 && !(r.at("end") && depth > 0)) {
            Step s = new Step();
            s.word = r.now().text;
            boolean known = r.now().kind == 1 && List.of("minute", "come", "go", "stay", "die", "fall", "any", "when", "loop", "stop").contains(s.word);
            if (!known) throw r.wrong(2);
            many[0]++;
            if (many[0] > 30) throw r.wrong(6);
            boolean block = s.word.equals("when") || s.word.equals("loop");
            if (block && depth == 3) throw r.wrong(7);
            r.i++;
            if (s.word.equals("minute")) s.number = r.number(1, 60);
            else if (s.word.equals("loop")) s.number = r.number(1, 99);
            else if (s.word.equals("when")) readTest(r, w, s);
            else if (!s.word.equals("any") && !s.word.equals("stop")) {
                s.subject = r.known(index(names(w)));
                r.i++;
            }
            r.need(";");
            if (block) {
                s.inner = readSteps(r, w, depth + 1, many);
                r.need("end");
                r.need(";");
            }
            steps.add(s);
        }
        return steps;
    }

    static void readTest(Reader r, World w, Step s) {
        s.test = r.now().text;
        if (r.at("governs")) {
            r.i++;
            s.subject = r.known(index(w.parties));
            r.i++;
        } else if (r.at("carried")) {
            r.i++;
            s.subject = r.known(index(w.motions));
            r.i++;
        } else {
            r.need("yards");
            s.subject = r.known(index(names(w)));
            r.i++;
            if (!r.at("<") && !r.at(">") && !r.at("=")) throw r.wrong(2);
            s.compares = r.now().text;
            r.i++;
            s.number = r.number(0, 999);
        }
    }

    /** LIVES steps in a World; done, missed, minutes, bells, deaths, left in the row. */
    static final class Life {
        final World w;
        int s;
        final int[] row = new int[6];
        boolean stopped;

        Life(World w, int seed) {
            this.w = w;
            s = seed;
        }

        void go(List<Step> steps) {
            for (Step step : steps) {
                if (stopped) return;
                if (row[0] == 300) {
                    row[5] = 1;
                    stopped = true;
                    return;
                }
                row[0]++;
                one(step);
            }
        }

        void one(Step step) {
            switch (step.word) {
                case "minute" -> {
                    if (w.minute + step.number > 9999) row[1]++;
                    else {
                        row[2] += step.number;
                        for (int i = 0; i < step.number; i++) row[3] += w.goMinute();
                    }
                }
                case "any" -> {
                    if (w.people.isEmpty()) {
                        row[1]++;
                        return;
                    }
                    s = (s * 2971 + 10723) % 65536;
                    Person p = w.people.get((s / 8) % w.people.size());
                    if (p.dead != NONE) row[1]++;
                    else p.way = p.way == 1 ? 2 : 1;
                }
                case "when" -> {
                    if (test(step)) go(step.inner);
                }
                case "loop" -> {
                    for (int i = 0; i < step.number; i++) go(step.inner);
                }
                case "stop" -> stopped = true;
                default -> {
                    Person p = w.people.get(step.subject);
                    if (p.dead != NONE) row[1]++;
                    else if (step.word.equals("come")) p.way = 1;
                    else if (step.word.equals("go")) p.way = 2;
                    else if (step.word.equals("stay")) p.way = 0;
                    else if (step.word.equals("fall")) p.sick = !p.sick;
                    else {
                        p.dead = 0;
                        p.way = 0;
                        row[4]++;
                    }
                }
            }
        }

        boolean test(Step step) {
            if (step.test.equals("governs")) return w.governor() == step.subject;
            if (step.test.equals("carried")) return w.carried(step.subject);
            int y = w.people.get(step.subject).yards;
            return step.compares.equals("<") ? y < step.number : step.compares.equals(">") ? y > step.number : y == step.number;
        }
    }

    int st;
    long over = 0, under = 1;
    long[][] rows = new long[4][];
    int[] sorts = new int[4];
    byte[] tape = new byte[900];
    int fed;
    int faultKind = NONE, faultPlace = NONE;
    World w = new World();
    List<World> kept = new ArrayList<>();
    int[] lastLife;

    int no(int why) {
        st = why;
        return NONE;
    }

    int yes(int v) {
        st = 0;
        return v;
    }

    boolean not(int why) {
        st = why;
        return false;
    }

    boolean ok() {
        st = 0;
        return true;
    }

    boolean fraction(long a, long b) {
        long g = java.math.BigInteger.valueOf(a).gcd(java.math.BigInteger.valueOf(b)).longValue();
        over = a / g;
        under = b / g;
        return ok();
    }

    boolean badMember(int m) {
        return m < 0 || m >= w.people.size();
    }

    boolean badParty(int p) {
        return p < 0 || p >= w.parties.size();
    }

    boolean badMotion(int m) {
        return m < 0 || m >= w.motions.size();
    }

    boolean badSet(int set, int many) {
        return set < 0 || set >= 1 << many;
    }

    public int status() {
        return st;
    }

    public long top() {
        return over;
    }

    public long bottom() {
        return under;
    }

    public boolean tray(int tray, int sort, int many) {
        if (tray < 0 || tray > 3 || sort < 0 || sort > 3) return not(1);
        if (many > 60) return not(5);
        if (many < 0) return not(6);
        rows[tray] = new long[many];
        sorts[tray] = sort;
        return ok();
    }

    int place(int tray, int place) {
        if (tray < 0 || tray > 3) return 1;
        if (rows[tray] == null) return 3;
        return place < 0 || place >= rows[tray].length ? 4 : 0;
    }

    public boolean write(int tray, int place, long v) {
        if (place(tray, place) != 0) return not(place(tray, place));
        int bits = 8 << sorts[tray];
        rows[tray][place] = v << (64 - bits) >> (64 - bits);
        return ok();
    }

    public long read(int tray, int place) {
        if (place(tray, place) != 0) return no(place(tray, place));
        st = 0;
        return rows[tray][place];
    }

    public boolean pour(int tray, int i, int to, int j, int many) {
        if (tray < 0 || tray > 3 || to < 0 || to > 3) return not(1);
        if (rows[tray] == null || rows[to] == null) return not(3);
        if (sorts[tray] != sorts[to]) return not(11);
        if (many < 0) return not(6);
        if (i < 0 || j < 0 || (long) i + many > rows[tray].length || (long) j + many > rows[to].length) return not(4);
        long[] old = rows[tray].clone();
        for (int k = 0; k < many; k++) rows[to][j + k] = old[i + k];
        return ok();
    }

    public int feed(int a, int b, int c, int d, int e) {
        if (fed + 20 > 900) return NONE;
        java.nio.ByteBuffer.wrap(tape, fed, 20).putInt(a).putInt(b).putInt(c).putInt(d).putInt(e);
        fed += 20;
        return fed;
    }

    public int assembly(int n) {
        if (n < 0 || n > fed) return no(5);
        fed = 0;
        try {
            w = readWorld(new Reader(tape, n));
            faultKind = 0;
            faultPlace = NONE;
            return yes(w.people.size());
        } catch (Wrong e) {
            faultKind = e.kind;
            faultPlace = e.place;
            return no(10);
        }
    }

    public int sessions(int n) {
        if (n < 0 || n > fed || n > 300) return no(5);
        fed = 0;
        try {
            int[] many = new int[1];
            w.steps = readSteps(new Reader(tape, n), w, 0, many);
            faultKind = 0;
            faultPlace = NONE;
            return yes(many[0]);
        } catch (Wrong e) {
            faultKind = e.kind;
            faultPlace = e.place;
            return no(10);
        }
    }

    public int fault(int what) {
        return what == 0 ? faultKind : what == 1 ? faultPlace : NONE;
    }

    public int many(int what) {
        int dead = 0, sick = 0;
        for (int m = 0; m < w.people.size(); m++) {
            if (w.people.get(m).dead != NONE) dead += 1 << m;
            if (w.people.get(m).sick) sick += 1 << m;
        }
        int[] all = {w.parties.size(), w.people.size(), w.motions.size(), w.rooms.size(), w.far, w.buried, w.ill, w.bell, w.minute,
            w.inSet(), dead, sick, w.carriedSet(), w.inSet() > 0 ? w.carriedSet() : 0, w.all(), w.nobody};
        return what < 0 || what > 15 ? no(5) : yes(all[what]);
    }

    public int member(int member, int what) {
        if (badMember(member)) return no(2);
        if (what < 0 || what > 8) return no(5);
        Person p = w.people.get(member);
        if (what == 5 && p.dead == NONE || what == 8 && p.twin == NONE) return no(8);
        int[] all = {p.party, p.yards, p.speed, p.price, p.way, p.dead, p.sick ? 1 : 0, p.hidden ? 1 : 0, p.twin};
        return yes(all[what]);
    }

    public int motion(int motion, int side) {
        if (badMotion(motion)) return no(2);
        return side < 0 || side > 1 ? no(5) : yes(w.sides.get(motion)[side]);
    }

    public int room(int room, int what) {
        if (room < 0 || room >= w.rooms.size()) return no(2);
        return what < 0 || what > 1 ? no(5) : yes(w.chairs.get(room)[what]);
    }

    public int counts(int member) {
        return badMember(member) ? no(2) : yes(w.weight(member));
    }

    public int power(int party) {
        return badParty(party) ? no(2) : yes(w.powerOfSet(1 << party));
    }

    public int powerOf(int parties) {
        return badSet(parties, w.parties.size()) ? no(5) : yes(w.powerOfSet(parties));
    }

    public int governs() {
        return w.governor() == NONE ? no(8) : yes(w.governor());
    }

    public int bells(int party) {
        return badParty(party) ? no(2) : yes(w.rung[party]);
    }

    public int margin(int motion) {
        if (badMotion(motion)) return no(2);
        return yes(w.powerOfSet(w.sides.get(motion)[0]) - w.powerOfSet(w.sides.get(motion)[1]));
    }

    int row(int tray, int many) {
        if (tray < 0 || tray > 3) return 1;
        if (rows[tray] == null) return 3;
        return rows[tray].length < many ? 4 : 0;
    }

    public int copyCounts(int tray) {
        int n = w.people.size();
        if (row(tray, n) != 0) return no(row(tray, n));
        for (int m = 0; m < n; m++) rows[tray][m] = w.weight(m);
        return yes(n);
    }

    public int minute(int minutes) {
        if (minutes < 1 || minutes > 600) return no(5);
        if (w.minute + minutes > 9999) return no(7);
        for (int i = 0; i < minutes; i++) w.goMinute();
        return yes(w.governor());
    }

    public boolean walk(int member, int way) {
        if (badMember(member)) return not(2);
        if (way < 0 || way > 2) return not(5);
        if (w.people.get(member).dead != NONE) return not(9);
        w.people.get(member).way = way;
        return ok();
    }

    public int die(int member) {
        if (badMember(member)) return no(2);
        Person p = w.people.get(member);
        if (p.dead != NONE) return no(9);
        p.dead = 0;
        p.way = 0;
        int live = 0;
        for (Person q : w.people) if (q.dead == NONE) live++;
        return yes(live);
    }

    public boolean fall(int member, boolean sick) {
        if (badMember(member)) return not(2);
        Person p = w.people.get(member);
        if (p.dead != NONE || p.sick == sick) return not(9);
        p.sick = sick;
        return ok();
    }

    public boolean hide(int member, boolean is) {
        if (badMember(member)) return not(2);
        Person p = w.people.get(member);
        if (p.hidden == is) return not(9);
        p.hidden = is;
        return ok();
    }

    public int carry(int member, int yards) {
        if (badMember(member)) return no(2);
        if (yards < 0 || yards > 999) return no(5);
        Person p = w.people.get(member);
        if (p.dead != NONE) return no(9);
        int old = p.yards;
        p.yards = yards;
        return yes(old);
    }

    public int year() {
        World old = w.copy();
        int lost = 0;
        for (Person p : w.people) if (p.dead != NONE && p.dead < 99) p.dead++;
        for (int m = 0; m < w.people.size(); m++) if (old.weight(m) > 0 && w.weight(m) == 0) lost++;
        return yes(lost);
    }

    public boolean rule(int what, int much) {
        if (what == 0 && much >= 1 && much <= 999) w.far = much;
        else if (what == 1 && much >= 0 && much <= 99) w.buried = much;
        else if (what == 2 && much >= 0 && much <= 2) w.ill = much;
        else if (what == 3 && much >= 1 && much <= 60) w.bell = much;
        else return not(5);
        return ok();
    }

    public int join(int member, int party) {
        if (badMember(member) || badParty(party)) return no(2);
        Person p = w.people.get(member);
        if (p.party == party) return no(9);
        int old = p.party;
        p.party = party;
        return yes(old);
    }

    public boolean side(int motion, int party, int side) {
        if (badMotion(motion) || badParty(party)) return not(2);
        if (side < 0 || side > 2) return not(5);
        int[] sides = w.sides.get(motion);
        for (int i = 0; i < 2; i++) {
            if ((sides[i] >> party & 1) == 1) sides[i] -= 1 << party;
            if (side == i) sides[i] += 1 << party;
        }
        return ok();
    }

    public int yardsIn(int member, int minutes) {
        if (badMember(member)) return no(2);
        if (minutes < 0 || minutes > 600) return no(5);
        return yes(w.later(minutes).people.get(member).yards);
    }

    public int governsIn(int minutes) {
        if (minutes < 0 || minutes > 600) return no(5);
        int g = w.later(minutes).governor();
        return g == NONE ? no(8) : yes(g);
    }

    public int firstIn(int party) {
        if (badParty(party)) return no(2);
        World x = w.copy();
        for (int t = 0; t <= 600; t++, x.goMinute()) if (x.governor() == party) return yes(t);
        return no(8);
    }

    public int carriedIn(int motion) {
        if (badMotion(motion)) return no(2);
        World x = w.copy();
        for (int t = 0; t <= 600; t++, x.goMinute()) if (x.carried(motion)) return yes(t);
        return no(8);
    }

    public int reign(int party, int minutes) {
        if (badParty(party)) return no(2);
        if (minutes < 1 || minutes > 600) return no(5);
        World x = w.copy();
        int n = 0;
        for (int t = 1; t <= minutes; t++) {
            x.goMinute();
            if (x.governor() == party) n++;
        }
        return yes(n);
    }

    public int emptyIn() {
        World x = w.copy();
        for (int t = 0; t <= 600; t++, x.goMinute()) if (x.inSet() == 0) return yes(t);
        return no(8);
    }

    int prices(int set) {
        int sum = 0;
        for (int m = 0; m < w.people.size(); m++) if ((set >> m & 1) == 1) sum += w.people.get(m).price;
        return sum;
    }

    int able() {
        int set = 0;
        for (int m = 0; m < w.people.size(); m++) if (w.people.get(m).able()) set += 1 << m;
        return set;
    }

    int best(int motion, boolean cheap) {
        List<Integer> sets = new ArrayList<>();
        for (int set = 0; set < 1 << w.people.size(); set++) if ((set | able()) == able() && w.away(set).carried(motion)) sets.add(set);
        sets.sort((a, b) -> {
            int price = cheap ? Integer.compare(prices(a), prices(b)) : 0;
            int size = Integer.compare(Integer.bitCount(a), Integer.bitCount(b));
            return price != 0 ? price : size != 0 ? size : Integer.compare(a, b);
        });
        return sets.isEmpty() ? NONE : sets.get(0);
    }

    int told(int motion, boolean cheap, boolean asSet) {
        if (badMotion(motion)) return no(2);
        int set = best(motion, cheap);
        if (set == NONE) return no(8);
        return yes(asSet ? set : cheap ? prices(set) : Integer.bitCount(set));
    }

    public int fewest(int motion) {
        return told(motion, false, false);
    }

    public int fewestSet(int motion) {
        return told(motion, false, true);
    }

    public int cheapest(int motion) {
        return told(motion, true, false);
    }

    public int cheapestSet(int motion) {
        return told(motion, true, true);
    }

    public int powerBy(int party, int members) {
        if (badParty(party)) return no(2);
        if (badSet(members, w.people.size())) return no(5);
        return yes(w.away(members).powerOfSet(1 << party));
    }

    /** The value for the first, and its MOVE, -1 being nothing. */
    static int[] play(World x, int mover, int waiter, int turns, boolean firstMoves) {
        if (turns == 0) {
            int diff = x.powerOfSet(1 << mover) - x.powerOfSet(1 << waiter);
            return new int[] {firstMoves ? diff : -diff, NONE};
        }
        List<int[]> all = new ArrayList<>();
        for (int m = 0; m < x.people.size(); m++) {
            if (x.people.get(m).party != mover || !x.people.get(m).able()) continue;
            all.add(new int[] {play(x.moved(m, 0), waiter, mover, turns - 1, !firstMoves)[0], 2 * m});
            all.add(new int[] {play(x.moved(m, 999), waiter, mover, turns - 1, !firstMoves)[0], 2 * m + 1});
        }
        all.add(new int[] {play(x, waiter, mover, turns - 1, !firstMoves)[0], NONE});
        int[] best = all.get(0);
        for (int[] one : all) if (firstMoves ? one[0] > best[0] : one[0] < best[0]) best = one;
        return best;
    }

    public int game(int party, int other, int turns) {
        if (badParty(party) || badParty(other)) return no(2);
        if (party == other || turns < 0 || turns > 3) return no(5);
        return yes(play(w, party, other, turns, true)[0]);
    }

    public int moveOf(int party, int other, int turns) {
        if (badParty(party) || badParty(other)) return no(2);
        if (party == other || turns < 1 || turns > 3) return no(5);
        int move = play(w, party, other, turns, true)[1];
        return move == NONE ? no(8) : yes(move);
    }

    public int winning() {
        int n = 0;
        for (int set = 0; set < 1 << w.parties.size(); set++) if (w.winsSet(set)) n++;
        return yes(n);
    }

    public int wins(int parties) {
        return badSet(parties, w.parties.size()) ? no(5) : yes(w.winsSet(parties) ? 1 : 0);
    }

    int swung(int party) {
        int n = 0;
        for (int set = 0; set < 1 << w.parties.size(); set++) if ((set >> party & 1) == 0 && !w.winsSet(set) && w.winsSet(set + (1 << party))) n++;
        return n;
    }

    public int swings(int party) {
        return badParty(party) ? no(2) : yes(swung(party));
    }

    public boolean share(int party) {
        if (badParty(party)) return not(2);
        int all = 0;
        for (int p = 0; p < w.parties.size(); p++) all += swung(p);
        return all == 0 ? not(8) : fraction(swung(party), all);
    }

    public int lean() {
        int n = 0;
        for (int set = 0; set < 1 << w.parties.size(); set++) {
            boolean lean = w.winsSet(set);
            for (int p = 0; p < 4; p++) if ((set >> p & 1) == 1 && w.winsSet(set - (1 << p))) lean = false;
            if (lean) n++;
        }
        return yes(n);
    }

    World by(int far, int buried, int ill) {
        World x = w.copy();
        x.far = far;
        x.buried = buried;
        x.ill = ill;
        return x;
    }

    public int carriedBy(int far, int buried, int ill) {
        if (far < 1 || far > 999 || buried < 0 || buried > 99 || ill < 0 || ill > 2) return no(5);
        return yes(by(far, buried, ill).carriedSet());
    }

    public int farFor(int motion) {
        if (badMotion(motion)) return no(2);
        for (int far = 1; far < 1000; far++) if (by(far, w.buried, w.ill).carried(motion)) return yes(far);
        return no(8);
    }

    List<Integer> ways(int tray) {
        List<Integer> ways = new ArrayList<>();
        for (int set = 0; set < 1 << w.people.size(); set++) {
            if ((set | able()) != able()) continue;
            World x = w.copy();
            for (int m = 0; m < x.people.size(); m++) if (x.people.get(m).able()) x.people.get(m).yards = (set >> m & 1) == 1 ? 999 : 0;
            boolean fits = true;
            for (int p = 0; p < x.parties.size(); p++) if (x.powerOfSet(1 << p) != rows[tray][p]) fits = false;
            if (fits) ways.add(set);
        }
        return ways;
    }

    public int tally(int tray) {
        int bad = row(tray, w.parties.size());
        return bad != 0 ? no(bad) : yes(ways(tray).size());
    }

    public int sure(int tray) {
        int bad = row(tray, w.parties.size());
        if (bad != 0) return no(bad);
        List<Integer> ways = ways(tray);
        if (ways.isEmpty()) return no(8);
        int set = ways.get(0);
        for (int way : ways) set &= way;
        return yes(set);
    }

    public int ask(int tray) {
        int bad = row(tray, w.parties.size());
        if (bad != 0) return no(bad);
        List<Integer> ways = ways(tray);
        if (ways.size() < 2) return no(8);
        int best = NONE, least = 0;
        for (int m = 0; m < w.people.size(); m++) {
            if (!w.people.get(m).able()) continue;
            int away = 0;
            for (int way : ways) away += way >> m & 1;
            int greater = Math.max(away, ways.size() - away);
            if (best == NONE || greater < least) {
                best = m;
                least = greater;
            }
        }
        return yes(best);
    }

    long cost(List<Integer> order) {
        long gone = 0, sum = 0;
        for (int r : order) {
            gone += w.chairs.get(r)[0];
            sum += gone * w.chairs.get(r)[1];
        }
        return sum;
    }

    /** The first of the best orders, by trying all in the order of ROOMS. */
    List<Integer> sought(List<Integer> begun) {
        if (begun.size() == w.rooms.size()) return begun;
        List<Integer> best = null;
        for (int r = 0; r < w.rooms.size(); r++) {
            if (begun.contains(r)) continue;
            List<Integer> more = new ArrayList<>(begun);
            more.add(r);
            more = sought(more);
            if (best == null || cost(more) < cost(best)) best = more;
        }
        return best;
    }

    int allOdds() {
        int sum = 0;
        for (int[] room : w.chairs) sum += room[1];
        return sum;
    }

    public boolean seek() {
        if (allOdds() == 0) return not(8);
        return fraction(cost(sought(List.of())), allOdds());
    }

    public int seekAt(int k) {
        if (allOdds() == 0 || k < 0 || k >= w.rooms.size()) return no(8);
        return yes(sought(List.of()).get(k));
    }

    public int live(int seed) {
        if (seed < 0 || seed > 9999) return no(5);
        if (w.steps == null) return no(8);
        Life life = new Life(w, seed);
        life.go(w.steps);
        lastLife = life.row;
        return yes(life.row[0]);
    }

    public int lived(int what) {
        if (what < 0 || what > 4) return no(5);
        return lastLife == null ? no(8) : yes(lastLife[what + 1]);
    }

    public boolean mean(int seed, int many) {
        if (seed < 0 || seed > 9999 || many < 1 || many > 20 || seed + many > 10000) return not(5);
        if (w.steps == null) return not(8);
        int sum = 0;
        for (int i = 0; i < many; i++) {
            Life life = new Life(w.copy(), seed + i);
            life.go(w.steps);
            sum += life.w.all();
        }
        return fraction(sum, many);
    }

    public int mark() {
        if (kept.size() == 3) return no(7);
        kept.add(w.copy());
        return yes(kept.size());
    }

    public int back() {
        if (kept.isEmpty()) return no(8);
        w = kept.remove(kept.size() - 1);
        return yes(kept.size());
    }
}
