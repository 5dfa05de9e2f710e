import java.lang.reflect.Constructor;
import java.lang.reflect.Field;
import java.lang.reflect.Method;
import java.lang.reflect.Modifier;
import java.util.ArrayList;
import java.util.Arrays;
import java.util.List;

/** 'What it is' and 'The public face'. */
final class FaceSentences {
    private static final String[] METHODS = {
        "int status()", "long top()", "long bottom()", "boolean tray(int tray, int sort, int many)", "boolean write(int tray, int place, long v)",
        "long read(int tray, int place)", "boolean pour(int tray, int i, int to, int j, int many)", "int feed(int a, int b, int c, int d, int e)",
        "int assembly(int n)", "int sessions(int n)", "int fault(int what)", "int many(int what)", "int member(int member, int what)",
        "int motion(int motion, int side)", "int room(int room, int what)", "int counts(int member)", "int power(int party)",
        "int powerOf(int parties)", "int governs()", "int bells(int party)", "int margin(int motion)", "int copyCounts(int tray)",
        "int minute(int minutes)", "boolean walk(int member, int way)", "int die(int member)", "boolean fall(int member, boolean sick)",
        "boolean hide(int member, boolean is)", "int carry(int member, int yards)", "int year()", "boolean rule(int what, int much)",
        "int join(int member, int party)", "boolean side(int motion, int party, int side)", "int yardsIn(int member, int minutes)",
        "int governsIn(int minutes)", "int firstIn(int party)", "int carriedIn(int motion)", "int reign(int party, int minutes)",
        "int emptyIn()", "int fewest(int motion)", "int fewestSet(int motion)", "int cheapest(int motion)", "int cheapestSet(int motion)",
        "int powerBy(int party, int members)", "int game(int party, int other, int turns)", "int moveOf(int party, int other, int turns)",
        "int winning()", "int wins(int parties)", "int swings(int party)", "boolean share(int party)", "int lean()",
        "int carriedBy(int far, int buried, int ill)", "int farFor(int motion)", "int tally(int tray)", "int sure(int tray)",
        "int ask(int tray)", "boolean seek()", "int seekAt(int k)", "int live(int seed)", "int lived(int what)",
        "boolean mean(int seed, int many)", "int mark()", "int back()"};

    private FaceSentences() {
    }

    static void run() throws Exception {
        Document.names("# EmptyChairs ## What it is");
        Document.names("An assembly that is counted by its empty chairs: parties, members with yards from the door, ways, speeds, twins, prices, the "
            + "sick and the dead, chairs that are hidden, motions for which some parties are and some against, bells, rooms where a chair may be, "
            + "a law of what counts, as a text; minutes in which members come and go, bells at which it is counted who governs; what a member "
            + "counts, which motion is carried, who governs when; the fewest who must stay away, the cheapest, games of two parties, coalitions "
            + "and who swings them, what is carried by another law, who was where by the tallies, whom to ask, in what order to seek a chair; "
            + "sessions as a text, by draws; marks to which all is taken back. ==== 1.");
        Document.says("An object is used for at most 512 calls after it has been made; what later calls answer is free.");
        String[] calls = new String[512];
        Arrays.fill(calls, "minute(1) = -1");
        calls[511] = "many(8) = 511";
        Document.test("the 512th call is answered as the first", calls);
        face();
    }

    private static void face() throws Exception {
        Document.names("## The public face ```java");
        Document.says("public final class EmptyChairs {");
        int kind = EmptyChairs.class.getModifiers();
        Document.holds("public and final", Modifier.isPublic(kind) && Modifier.isFinal(kind));
        Document.holds("a class of its own", EmptyChairs.class.getSuperclass() == Object.class && EmptyChairs.class.getInterfaces().length == 0);
        Document.says("public static final int NONE = -1;");
        Field none = EmptyChairs.class.getDeclaredField("NONE");
        Document.holds("it is", Modifier.isPublic(none.getModifiers()) && Modifier.isStatic(none.getModifiers())
            && Modifier.isFinal(none.getModifiers()) && none.getType() == int.class && none.getInt(null) == -1);
        Document.says("public EmptyChairs();");
        Constructor<?>[] made = EmptyChairs.class.getDeclaredConstructors();
        Document.holds("this one", made.length == 1 && Modifier.isPublic(made[0].getModifiers()) && made[0].getParameterCount() == 0);
        List<String> there = methods();
        for (String method : METHODS) {
            Document.says("public " + method + ";");
            // Its parameters' names can't be told by the class.
            Document.holds("it is there", there.remove(method.replaceAll(" \\w+(,|\\))", "$1")));
        }
        Document.says("} ```");
        Document.holds("no public method besides: " + there, there.isEmpty());
        Document.holds("no public field, class besides", EmptyChairs.class.getFields().length == 1 && EmptyChairs.class.getClasses().length == 0);
    }

    /** Those that are not private, as the document writes them, but for their parameters' names. */
    private static List<String> methods() {
        List<String> all = new ArrayList<>();
        for (Method m : EmptyChairs.class.getDeclaredMethods()) {
            int kind = m.getModifiers();
            if (Modifier.isPrivate(kind)) {
                continue;
            }
            List<String> types = new ArrayList<>();
            for (Class<?> type : m.getParameterTypes()) {
                types.add(type.getName());
            }
            String rest = Modifier.isPublic(kind) && !Modifier.isStatic(kind) ? "" : Modifier.toString(kind) + " ";
            all.add(rest + m.getReturnType().getName() + " " + m.getName() + "(" + String.join(", ", types) + ")");
        }
        return all;
    }
}
