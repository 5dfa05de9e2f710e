/** All that calls can tell of an object, but for STATUS; asking it spoils the object, so it is asked of replays. */
final class Probe {
    private static final String[] NAMES = {"ann", "bob", "cid", "dot", "eve", "fay", "red", "blue", "grey", "bread", "war", "a", "b", "e", "n", "o", "s", "t"};
    private static final int BLANKS = 0x20202020;

    private final EmptyChairs x;
    private final StringBuilder told = new StringBuilder();

    private Probe(EmptyChairs x) {
        this.x = x;
    }

    /**
     * What a refused call changed that it must not, or "". The pairs are replays alike, without that call and with it;
     * a FAULT may change what fault() tells, and must have emptied the tape.
     */
    static String whatChanged(EmptyChairs without, EmptyChairs with, EmptyChairs textWithout, EmptyChairs textWith, boolean isFault) {
        String before = all(without, isFault);
        String after = all(with, isFault);
        if (!before.equals(after)) {
            int i = 0;
            while (i < before.length() && i < after.length() && before.charAt(i) == after.charAt(i)) {
                i++;
            }
            return "it changed " + from(before, i) + " to " + from(after, i);
        }
        if (isFault) {
            return tapeLength(textWith) == 0 ? "" : "the tape is not empty";
        }
        return tape(textWithout).equals(tape(textWith)) ? "" : "it changed the tape";
    }

    private static String from(String told, int i) {
        return told.substring(Math.max(0, i - 60), Math.min(told.length(), i + 20));
    }

    private static String all(EmptyChairs x, boolean isFault) {
        Probe p = new Probe(x);
        p.tell("fraction", x.top(), x.bottom());
        if (!isFault) {
            p.tell("fault", x.fault(0), x.fault(1));
        }
        for (int tray = 0; tray < 4; tray++) {
            p.tray(tray);
        }
        p.lived();
        // The tape may be full: an empty text makes it empty, but SESSIONS are asked ahead of that.
        p.assembly();
        for (int marks = 0; marks < 4; marks++) {
            p.tell("back", x.back());
            p.assembly();
        }
        return p.told.toString();
    }

    private static int tapeLength(EmptyChairs x) {
        int fed = 0;
        for (int i = 0; i < 46 && x.feed(BLANKS, BLANKS, BLANKS, BLANKS, BLANKS) != EmptyChairs.NONE; i++) {
            fed += 20;
        }
        return 900 - fed;
    }

    /** The tape can only be told by what a text on it is. */
    private static String tape(EmptyChairs x) {
        Probe p = new Probe(x);
        int length = tapeLength(x);
        p.tell("tape", length, x.assembly(length), x.fault(0), x.fault(1));
        p.halls();
        return p.told.toString();
    }

    private void tell(String what, long... numbers) {
        told.append(what);
        for (long n : numbers) {
            told.append(' ').append(n);
        }
        told.append('\n');
    }

    private void tray(int tray) {
        for (int place = 0; place <= 60; place++) {
            tell("tray " + tray, x.read(tray, place), x.status());
            if (x.status() != 0) {
                break;
            }
        }
        x.write(tray, 0, Long.MAX_VALUE / 3 * 2);
        tell("sort", x.read(tray, 0));
    }

    private void lived() {
        for (int what = 0; what < 5; what++) {
            tell("lived", x.lived(what));
        }
    }

    private void halls() {
        for (int what = 0; what < 16; what++) {
            tell("many " + what, x.many(what));
        }
        int members = x.many(1);
        int motions = x.many(2);
        int rooms = x.many(3);
        int parties = x.many(0);
        for (int m = 0; m < members; m++) {
            for (int what = 0; what < 9; what++) {
                tell("member " + m + " " + what, x.member(m, what));
            }
        }
        for (int m = 0; m < motions; m++) {
            tell("motion " + m, x.motion(m, 0), x.motion(m, 1));
        }
        for (int r = 0; r < rooms; r++) {
            tell("room " + r, x.room(r, 0), x.room(r, 1));
        }
        for (int p = 0; p < parties; p++) {
            tell("bells " + p, x.bells(p));
        }
    }

    private void assembly() {
        halls();
        tell("live", x.live(7));
        lived();
        halls();
        x.sessions(0);
        for (String name : NAMES) {
            told.append(name).append(' ');
            tell("member", x.sessions(Rows.feed(x, "go " + name + ";")));
            tell("party", x.sessions(Rows.feed(x, "when governs " + name + ";end;")));
            tell("motion", x.sessions(Rows.feed(x, "when carried " + name + ";end;")));
        }
    }
}
