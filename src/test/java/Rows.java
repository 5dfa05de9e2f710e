import java.lang.reflect.InvocationTargetException;
import java.lang.reflect.Method;
import java.lang.reflect.Modifier;
import java.nio.ByteBuffer;
import java.nio.charset.StandardCharsets;
import java.util.Arrays;
import java.util.HashMap;
import java.util.Map;

/**
 * Tests that are written as rows, each a call on one new object with what is due:
 *
 * <pre>
 *   many(1) = 6                        this answer, with STATUS 0 (a boolean counts 1 or 0)
 *   walk(6, 0) ! 2                     NONE or false, with this STATUS, and nothing else has changed
 *   fault(1) -> 3                      this answer; STATUS stays as it was
 *   tape: party a;                     the text comes to the tape, with blanks up to the next 20 bytes
 *   assembly: party a; = 0             the text comes to the tape and is the ASSEMBLY: so many MEMBERS
 *   sessions: any; = 1                 likewise the SESSIONS: so many STEPS
 *   assembly: party a;x ! 2 @ 8        a FAULT of this kind at this place, STATUS 10, an empty tape, nothing else has changed
 * </pre>
 *
 * MIN, MAX, LEAST and GREATEST are the least and the greatest int and long.
 */
final class Rows {
    static final String HOUSE = "assembly: " + Check.HOUSE + " = 6";
    /** As many of each thing as there can be: PARTIES a to d, MEMBERS e to n, MOTIONS o to s, ROOMS t to y. */
    static final String FULL_TEXT = many("party #;", 'a', 4) + many("member # of a at 0;", 'e', 10)
        + many("motion # for a against b;", 'o', 5) + many("room # takes 1 odds 1;", 't', 6);
    static final String FULL = "assembly: " + FULL_TEXT + " = 10";

    private static final int PROMISES = 63;
    private static final Map<String, Method> CALLS = new HashMap<>();
    private static final int[] TESTS = new int[PROMISES + 1];
    private static int rowsRun = 0;
    private static int wrong = 0;

    private final EmptyChairs x = new EmptyChairs();
    private String trouble = "";

    static {
        for (Method m : EmptyChairs.class.getDeclaredMethods()) {
            if (Modifier.isPublic(m.getModifiers())) {
                CALLS.put(m.getName(), m);
            }
        }
    }

    /** The part so many times, # being one letter after the other. */
    static String many(String part, char first, int times) {
        StringBuilder b = new StringBuilder();
        for (int i = 0; i < times; i++) {
            b.append(part.replace('#', (char) (first + i)));
        }
        return b.toString();
    }

    /** Those rows and then these. */
    static String[] join(String[] first, String... rows) {
        String[] all = Arrays.copyOf(first, first.length + rows.length);
        System.arraycopy(rows, 0, all, first.length, rows.length);
        return all;
    }

    /** Rows behind 9,600 MINUTES in an ASSEMBLY of nobody. */
    static String[] after9600(String... rows) {
        String[] minutes = new String[16];
        Arrays.fill(minutes, "minute(600) = -1");
        return join(minutes, rows);
    }

    static void test(int promise, String title, String... rows) {
        TESTS[promise]++;
        play("promise " + promise + ", " + title, rows);
    }

    /** Plays rows on one new object, and tells those that are not as due. */
    static void play(String title, String... rows) {
        Rows run = new Rows();
        for (int i = 0; i < rows.length; i++) {
            rowsRun++;
            run.trouble = "";
            run.play(rows[i]);
            if (run.trouble.isEmpty() && isRefused(rows[i])) {
                boolean isFault = isTextFault(rows[i]) || rows[i].endsWith(" ! 10");
                run.trouble = Probe.whatChanged(replay(rows, i), replay(rows, i + 1), replay(rows, i), replay(rows, i + 1), isFault);
            }
            if (!run.trouble.isEmpty()) {
                wrong++;
                System.out.println(title + ": " + rows[i] + " .. " + run.trouble);
            }
        }
    }

    static int rowsRun() {
        return rowsRun;
    }

    static int wrong() {
        return wrong;
    }

    /** All promises have tests, and no row was wrong. */
    static void end() {
        int tests = 0;
        for (int promise = 1; promise <= PROMISES; promise++) {
            tests += TESTS[promise];
            if (TESTS[promise] == 0) {
                wrong++;
                System.out.println("promise " + promise + " has no test");
            }
        }
        System.out.println(tests + " tests of bounds, " + rowsRun + " rows, " + wrong + " not as due");
        System.exit(wrong == 0 ? 0 : 1);
    }

    private static boolean isText(String row) {
        return row.startsWith("assembly: ") || row.startsWith("sessions: ");
    }

    private static boolean isTextFault(String row) {
        return isText(row) && row.lastIndexOf(" ! ") > row.lastIndexOf(" = ");
    }

    private static boolean isRefused(String row) {
        return isTextFault(row) || !isText(row) && !row.startsWith("tape: ") && row.contains(" ! ");
    }

    private static EmptyChairs replay(String[] rows, int many) {
        Rows run = new Rows();
        for (int i = 0; i < many; i++) {
            run.play(rows[i]);
        }
        return run.x;
    }

    private void play(String row) {
        if (row.startsWith("tape: ")) {
            feed(x, row.substring(6));
        } else if (isTextFault(row)) {
            playFault(row);
        } else if (isText(row)) {
            int sign = row.lastIndexOf(" = ");
            int n = feed(x, row.substring(10, sign));
            due(take(row, n), number(row.substring(sign + 3)), 0);
        } else {
            playCall(row);
        }
    }

    private void playFault(String row) {
        int sign = row.lastIndexOf(" ! ");
        String[] kindAndPlace = row.substring(sign + 3).split(" @ ");
        int n = feed(x, row.substring(10, sign));
        due(take(row, n), EmptyChairs.NONE, 10);
        if (x.fault(0) != number(kindAndPlace[0]) || x.fault(1) != number(kindAndPlace[1])) {
            trouble += "fault " + x.fault(0) + " @ " + x.fault(1);
        }
    }

    private long take(String row, int n) {
        return row.startsWith("assembly") ? x.assembly(n) : x.sessions(n);
    }

    private void playCall(String row) {
        int close = row.indexOf(')');
        String sign = row.substring(close + 1, row.lastIndexOf(' ')).trim();
        long due = number(row.substring(row.lastIndexOf(' ') + 1));
        int before = x.status();
        long got = call(row.substring(0, close + 1));
        switch (sign) {
            case "=" -> due(got, due, 0);
            case "!" -> due(got, CALLS.get(row.substring(0, row.indexOf('('))).getReturnType() == boolean.class ? 0 : EmptyChairs.NONE, due);
            case "->" -> due(got, due, before);
            default -> trouble += "no such row";
        }
    }

    private long call(String call) {
        String name = call.substring(0, call.indexOf('('));
        String inner = call.substring(name.length() + 1, call.length() - 1).trim();
        String[] words = inner.isEmpty() ? new String[0] : inner.split(", *");
        Method m = CALLS.get(name);
        Object[] arguments = new Object[words.length];
        for (int i = 0; i < words.length; i++) {
            Class<?> type = m.getParameterTypes()[i];
            arguments[i] = type == boolean.class ? (Object) Boolean.valueOf(words[i])
                : type == long.class ? (Object) number(words[i]) : (Object) Math.toIntExact(number(words[i]));
        }
        try {
            Object got = m.invoke(x, arguments);
            return got instanceof Boolean is ? (is ? 1 : 0) : ((Number) got).longValue();
        } catch (IllegalAccessException | InvocationTargetException e) {
            trouble += "it threw " + e.getCause();
            return 0;
        }
    }

    private void due(long got, long want, long status) {
        if (got != want || x.status() != status) {
            trouble += "answered " + got + " with status " + x.status() + ", due is " + want + " with status " + status;
        }
    }

    private static long number(String word) {
        return switch (word) {
            case "MIN" -> Integer.MIN_VALUE;
            case "MAX" -> Integer.MAX_VALUE;
            case "LEAST" -> Long.MIN_VALUE;
            case "GREATEST" -> Long.MAX_VALUE;
            default -> Long.parseLong(word);
        };
    }

    /** The text's length; blanks come behind it up to the next 20 bytes. */
    static int feed(EmptyChairs x, String text) {
        byte[] bytes = text.getBytes(StandardCharsets.ISO_8859_1);
        byte[] padded = Arrays.copyOf(bytes, (bytes.length + 19) / 20 * 20);
        Arrays.fill(padded, bytes.length, padded.length, (byte) ' ');
        ByteBuffer b = ByteBuffer.wrap(padded);
        while (b.hasRemaining()) {
            x.feed(b.getInt(), b.getInt(), b.getInt(), b.getInt(), b.getInt());
        }
        return bytes.length;
    }
}
