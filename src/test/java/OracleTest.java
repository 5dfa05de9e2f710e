import java.lang.reflect.Method;
import java.util.ArrayList;
import java.util.List;
import java.util.Random;

/** Runs of random calls (always the same ones) on EmptyChairs and on Model: each answer and STATUS must agree. */
public final class OracleTest {
    private final Random random;
    private final EmptyChairs chairs = new EmptyChairs();
    private final Model model = new Model();
    private final List<String> history = new ArrayList<>();
    private static final List<Method> CALLS = new ArrayList<>();
    private static int wrong = 0;
    private static long compared = 0;

    private OracleTest(long seed) {
        random = new Random(seed);
    }

    public static void main(String[] args) throws Exception {
        for (Method m : EmptyChairs.class.getDeclaredMethods()) {
            if (java.lang.reflect.Modifier.isPublic(m.getModifiers())) {
                CALLS.add(m);
            }
        }
        CALLS.sort((a, b) -> a.getName().compareTo(b.getName()));
        int runs = args.length > 0 ? Integer.parseInt(args[0]) : 1500;
        for (int seed = 0; seed < runs && wrong < 5; seed++) {
            new OracleTest(seed).run();
        }
        System.out.println("compared " + compared + " answers of " + CALLS.size() + " calls, " + wrong + " unlike");
        System.exit(wrong == 0 ? 0 : 1);
    }

    private void run() throws Exception {
        if (random.nextInt(8) > 0) {
            feedText(assemblyText(), "assembly");
        }
        int calls = 60 + random.nextInt(400);
        for (int i = 0; i < calls && wrong < 5; i++) {
            int kind = random.nextInt(100);
            if (kind < 2) {
                feedText(random.nextBoolean() ? assemblyText() : spoil(assemblyText()), "assembly");
            } else if (kind < 8) {
                feedText(random.nextInt(3) > 0 ? sessionsText() : spoil(sessionsText()), "sessions");
            } else if (kind < 12) {
                layPowers();
            } else {
                Method m = CALLS.get(random.nextInt(CALLS.size()));
                // Without a text these two only clear what the run has built up; back() does so, too.
                boolean isRare = m.getName().equals("assembly") || m.getName().equals("sessions") || m.getName().equals("back");
                if (!isRare || random.nextInt(6) == 0) {
                    both(m, arguments(m));
                }
            }
        }
    }

    private void both(Method m, Object[] a) throws Exception {
        Method other = Model.class.getDeclaredMethod(m.getName(), m.getParameterTypes());
        Object want = other.invoke(model, a);
        Object got;
        try {
            got = m.invoke(chairs, a);
        } catch (java.lang.reflect.InvocationTargetException e) {
            got = e.getCause();
        }
        String call = m.getName() + java.util.Arrays.toString(a);
        history.add(call);
        compared++;
        if (!want.equals(got) || chairs.status() != model.status() || chairs.top() != model.top()
            || chairs.bottom() != model.bottom() || chairs.fault(0) != model.fault(0) || chairs.fault(1) != model.fault(1)) {
            wrong++;
            System.out.println("unlike: " + call + " answered " + got + " (" + chairs.status() + "), due is " + want + " ("
                + model.status() + "), faults " + chairs.fault(0) + "@" + chairs.fault(1) + " " + model.fault(0) + "@" + model.fault(1));
            System.out.println("  after " + history);
        }
    }

    private Object[] arguments(Method m) {
        Class<?>[] types = m.getParameterTypes();
        Object[] a = new Object[types.length];
        for (int i = 0; i < a.length; i++) {
            if (types[i] == boolean.class) {
                a[i] = random.nextBoolean();
            } else if (types[i] == long.class) {
                a[i] = random.nextLong() >> random.nextInt(64);
            } else {
                a[i] = number(m.getName(), i);
            }
        }
        return a;
    }

    private int number(String call, int i) {
        switch (random.nextInt(24)) {
            case 0: return random.nextInt();
            case 1: return random.nextInt(5) - 2;
            case 2: return new int[] {Integer.MIN_VALUE, Integer.MAX_VALUE, 61, 60, 600, 601, 999, 1000, 9999, 10000}[random.nextInt(10)];
            default: break;
        }
        Integer near = nearNumber(call, i);
        if (near != null && random.nextInt(8) > 0) {
            return near;
        }
        if (call.equals("minute") || call.endsWith("In") && i == 1 || call.equals("governsIn") || call.equals("reign") && i == 1) {
            return random.nextInt(3) == 0 ? random.nextInt(602) : random.nextInt(30);
        }
        if (call.equals("carry") && i == 1 || call.equals("carriedBy") && i == 0 || call.equals("rule") && i == 1) {
            return random.nextInt(3) == 0 ? random.nextInt(1001) : random.nextInt(70);
        }
        if (call.equals("powerBy") && i == 1) {
            return random.nextInt(1 << (1 + random.nextInt(10)));
        }
        if (call.equals("live") || call.equals("mean") && i == 0) {
            return random.nextInt(10000);
        }
        if (call.equals("tray") && i == 2 || call.equals("carriedBy")) {
            return random.nextInt(12);
        }
        return random.nextInt(random.nextInt(3) == 0 ? 16 : 5);
    }

    private int upTo(int many) {
        return random.nextInt(many + 1);
    }

    /** A number that most often names something there is. */
    private Integer nearNumber(String call, int i) {
        int parties = model.w.parties.size();
        int members = model.w.people.size();
        switch (call) {
            case "member", "counts", "walk", "die", "fall", "hide", "carry", "yardsIn":
                return i == 0 ? (Integer) upTo(members) : null;
            case "join":
                return i == 0 ? upTo(members) : upTo(parties);
            case "motion", "margin", "carriedIn", "fewest", "fewestSet", "cheapest", "cheapestSet", "farFor":
                return i == 0 ? (Integer) upTo(model.w.motions.size()) : null;
            case "side":
                return i == 0 ? upTo(model.w.motions.size()) : i == 1 ? upTo(parties) : upTo(3);
            case "room":
                return i == 0 ? upTo(model.w.rooms.size()) : upTo(2);
            case "seekAt":
                return upTo(model.w.rooms.size());
            case "power", "bells", "firstIn", "reign", "swings", "share", "powerBy":
                return i == 0 ? (Integer) upTo(parties) : null;
            case "powerOf", "wins":
                return upTo(1 << parties);
            case "game", "moveOf":
                return i < 2 ? upTo(parties) : upTo(4);
            case "minute":
                return random.nextInt(4) == 0 ? (Integer) upTo(601) : null;
            default:
                return null;
        }
    }

    /** A TRAY with POWERS that can be, so that TALLY finds WAYS. */
    private void layPowers() throws Exception {
        int tray = random.nextInt(4);
        both(EmptyChairs.class.getMethod("tray", int.class, int.class, int.class), new Object[] {tray, random.nextInt(4), 4 + random.nextInt(7)});
        for (int p = 0; p < model.w.parties.size(); p++) {
            long v = random.nextInt(4) > 0 ? model.w.powerOfSet(1 << p) : random.nextInt(6);
            both(EmptyChairs.class.getMethod("write", int.class, int.class, long.class), new Object[] {tray, p, v});
        }
        String call = pick("tally", "sure", "ask", "copyCounts");
        both(EmptyChairs.class.getMethod(call, int.class), new Object[] {tray});
    }

    private void feedText(String text, String call) throws Exception {
        Method feed = EmptyChairs.class.getMethod("feed", int.class, int.class, int.class, int.class, int.class);
        byte[] bytes = text.getBytes(java.nio.charset.StandardCharsets.ISO_8859_1);
        byte[] padded = java.util.Arrays.copyOf(bytes, (bytes.length + 19) / 20 * 20);
        java.nio.ByteBuffer b = java.nio.ByteBuffer.wrap(padded);
        both(EmptyChairs.class.getMethod("assembly", int.class), new Object[] {-1});
        int rest = model.fed;
        for (int i = 0; i < padded.length; i += 20) {
            both(feed, new Object[] {b.getInt(), b.getInt(), b.getInt(), b.getInt(), b.getInt()});
        }
        history.add("(" + text + ")");
        both(EmptyChairs.class.getMethod(call, int.class), new Object[] {rest + bytes.length});
    }

    private String pick(String... of) {
        return of[random.nextInt(of.length)];
    }

    private String spoil(String text) {
        StringBuilder b = new StringBuilder(text);
        int times = 1 + random.nextInt(2);
        for (int i = 0; i < times && b.length() > 0; i++) {
            int at = random.nextInt(b.length());
            switch (random.nextInt(4)) {
                case 0 -> b.deleteCharAt(at);
                case 1 -> b.insert(at, pick(" ", "x", "7", ";", "\n", "\u00e9", "A", "<", " end ", " 12345 ", "abcdefghij"));
                case 2 -> b.setCharAt(at, (char) random.nextInt(256));
                default -> b.setLength(at);
            }
        }
        return b.toString();
    }

    private static final String[] NAMES = {"ann", "bob", "cid", "dot", "eve", "fay", "gus", "hal", "ida", "jon", "kit"};
    private static final String[] PARTIES = {"red", "blue", "grey", "gold", "pink"};
    private static final String[] MOTIONS = {"bread", "war", "peace", "tax", "roads", "corn"};
    private static final String[] ROOMS = {"hall", "attic", "cellar", "loft", "barn", "shed", "porch"};

    private String blank() {
        return pick(" ", " ", " ", "  ", "\n", " \n ");
    }

    private int small(int most) {
        return random.nextInt(40) == 0 ? most + 1 : random.nextInt(20) == 0 ? 0 : 1 + random.nextInt(most);
    }

    private String assemblyText() {
        StringBuilder b = new StringBuilder();
        boolean over = random.nextInt(12) == 0;
        int parties = random.nextInt(10) == 0 ? 0 : 1 + random.nextInt(over ? 5 : 4);
        int members = parties == 0 ? 0 : random.nextInt(3) == 0 ? random.nextInt(over ? 12 : 11) : random.nextInt(7);
        if (random.nextBoolean()) b.append("far ").append(1 + random.nextInt(80)).append(';');
        if (random.nextBoolean()) b.append("buried").append(blank()).append(random.nextInt(12)).append(" ;");
        if (random.nextBoolean()) b.append("ill ").append(random.nextInt(3)).append(';');
        if (random.nextBoolean()) b.append("bell ").append(small(9)).append(";\n");
        for (int i = 0; i < parties; i++) b.append("party ").append(PARTIES[i]).append(';');
        for (int i = 0; i < members; i++) {
            b.append("member ").append(NAMES[i]).append(" of ").append(PARTIES[random.nextInt(parties)]).append(" at ");
            b.append(random.nextInt(3) == 0 ? 0 : random.nextInt(100));
            if (random.nextInt(2) == 0) b.append(" speed ").append(1 + random.nextInt(20));
            if (random.nextInt(2) == 0) b.append(" price ").append(random.nextInt(12));
            if (random.nextInt(6) == 0) b.append(" dead ").append(random.nextInt(12));
            if (random.nextInt(6) == 0) b.append(" sick");
            if (random.nextInt(8) == 0) b.append(" hidden");
            b.append(";");
        }
        for (int i = 0; i + 1 < members; i += 2) {
            if (random.nextInt(3) == 0) b.append("twins ").append(NAMES[i]).append(blank()).append(NAMES[random.nextInt(12) == 0 ? i : i + 1]).append(';');
        }
        int motions = random.nextInt(over ? 7 : 6);
        for (int i = 0; i < motions; i++) {
            StringBuilder[] sides = {new StringBuilder(), new StringBuilder(), new StringBuilder()};
            for (int p = 0; p < parties; p++) sides[random.nextInt(3)].append(' ').append(PARTIES[p]);
            b.append("motion ").append(MOTIONS[i]).append(" for").append(sides[0]).append(" against").append(sides[1]).append(';');
        }
        int rooms = random.nextInt(over ? 8 : 7);
        for (int i = 0; i < rooms; i++) {
            b.append("room ").append(ROOMS[i]).append(" takes ").append(1 + random.nextInt(6)).append(" odds ").append(random.nextInt(5)).append(';');
        }
        return b.length() > 880 ? "party red;" : b.toString();
    }

    private String sessionsText() {
        StringBuilder b = new StringBuilder();
        steps(b, 0);
        return b.toString();
    }

    private void steps(StringBuilder b, int depth) {
        int n = random.nextInt(depth == 0 ? random.nextInt(10) == 0 ? 40 : 9 : 4);
        String someone = model.w.people.isEmpty() ? "ann" : model.w.people.get(random.nextInt(model.w.people.size())).name;
        for (int i = 0; i < n && b.length() < 260; i++) {
            String name = random.nextInt(30) == 0 ? pick("red", "war", "nobody") : someone;
            switch (random.nextInt(10)) {
                case 0, 1 -> b.append("minute ").append(small(60)).append(';');
                case 2 -> b.append("come ").append(name).append(';');
                case 3 -> b.append("go ").append(name).append(";");
                case 4 -> b.append(pick("stay ", "fall ", "fall ", "die ")).append(name).append(";");
                case 5, 6 -> b.append("any;");
                case 7 -> {
                    b.append("loop ").append(random.nextInt(4) == 0 ? small(99) : small(4)).append(";");
                    steps(b, depth + 1);
                    b.append("end;");
                }
                case 8 -> {
                    b.append("when ").append(test(name)).append(";");
                    steps(b, depth + 1);
                    b.append("end ;");
                }
                default -> b.append(random.nextInt(6) == 0 ? "stop;" : "any;");
            }
        }
    }

    private String test(String name) {
        int kind = random.nextInt(3);
        if (kind == 0 && !model.w.parties.isEmpty()) return "governs " + model.w.parties.get(random.nextInt(model.w.parties.size()));
        if (kind == 1 && !model.w.motions.isEmpty()) return "carried " + model.w.motions.get(random.nextInt(model.w.motions.size()));
        return "yards " + name + pick("<", " > ", "=") + random.nextInt(60);
    }
}
