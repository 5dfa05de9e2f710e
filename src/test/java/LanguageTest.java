import java.lang.reflect.Constructor;
import java.lang.reflect.Field;
import java.lang.reflect.Method;
import java.lang.reflect.Modifier;
import java.nio.file.Files;
import java.nio.file.Path;
import java.util.ArrayList;
import java.util.Arrays;
import java.util.List;
import java.util.Set;
import java.util.TreeSet;
import java.util.regex.Matcher;
import java.util.regex.Pattern;

/** The rules of ../shared/LANGUAGE.md that can be looked up, and the face of ../shared/DOC.md. */
public final class LanguageTest {
    private static int wrong = 0;
    private static String source;

    public static void main(String[] args) throws Exception {
        source = Files.readString(Path.of("src/main/java/EmptyChairs.java"));
        face();
        members();
        nested();
        words();
        methodLengths();
        System.out.println(wrong == 0 ? "the rules are kept" : wrong + " rules are broken");
        System.exit(wrong == 0 ? 0 : 1);
    }

    private static void holds(String rule, boolean is) {
        if (!is) {
            wrong++;
            System.out.println("broken: " + rule);
        }
    }

    private static void face() throws Exception {
        String doc = Files.readString(Path.of("../shared/DOC.md"));
        String block = doc.substring(doc.indexOf("```java") + 7, doc.indexOf("```", doc.indexOf("```java") + 7));
        Set<String> due = new TreeSet<>();
        Matcher m = Pattern.compile("public (\\w+) (\\w+)\\(([^)]*)\\);").matcher(block);
        while (m.find()) {
            due.add(m.group(1) + " " + m.group(2) + "(" + m.group(3).replaceAll(" \\w+(,|$)", "$1") + ")");
        }
        Set<String> is = new TreeSet<>();
        for (Method method : EmptyChairs.class.getDeclaredMethods()) {
            if (Modifier.isPublic(method.getModifiers())) {
                List<String> types = new ArrayList<>();
                for (Class<?> type : method.getParameterTypes()) {
                    types.add(type.getName());
                }
                is.add(method.getReturnType().getName() + " " + method.getName() + "(" + String.join(", ", types) + ")");
            }
        }
        holds("1: the face is " + due + " but is " + is, due.equals(is) && due.size() == 62);
        holds("1: NONE", EmptyChairs.NONE == -1 && EmptyChairs.class.getFields().length == 1);
        holds("1: public and final", Modifier.isPublic(EmptyChairs.class.getModifiers()) && Modifier.isFinal(EmptyChairs.class.getModifiers()));
        Constructor<?>[] made = EmptyChairs.class.getDeclaredConstructors();
        holds("1: one constructor", made.length == 1 && Modifier.isPublic(made[0].getModifiers()) && made[0].getParameterCount() == 0);
    }

    private static void members() {
        Set<String> faceNames = new TreeSet<>();
        for (Method method : EmptyChairs.class.getMethods()) {
            faceNames.add(method.getName());
        }
        for (Method method : EmptyChairs.class.getDeclaredMethods()) {
            int kind = method.getModifiers();
            holds("1: private or public: " + method, Modifier.isPublic(kind) || Modifier.isPrivate(kind));
        }
        for (Class<?> c : classes()) {
            int fields = 0;
            for (Field field : c.getDeclaredFields()) {
                int kind = field.getModifiers();
                boolean plain = Set.of(int.class, long.class, boolean.class, char.class, String.class, int[].class, long[].class,
                    char[].class, byte[].class).contains(field.getType());
                holds("5: " + field, !Modifier.isStatic(kind) || Modifier.isFinal(kind) && plain);
                holds("1: " + field, c != EmptyChairs.class || Modifier.isPrivate(kind) || field.getName().equals("NONE"));
                fields += Modifier.isStatic(kind) ? 0 : 1;
            }
            holds("11: fields of " + c, fields <= 20);
            for (Method method : c.getDeclaredMethods()) {
                holds("11: parameters of " + method, method.getParameterCount() <= 7);
                boolean isFace = c == EmptyChairs.class && Modifier.isPublic(method.getModifiers());
                holds("1: a name of the face: " + method, isFace || !faceNames.contains(method.getName()));
            }
        }
    }

    private static List<Class<?>> classes() {
        List<Class<?>> all = new ArrayList<>(Arrays.asList(EmptyChairs.class.getDeclaredClasses()));
        all.add(EmptyChairs.class);
        return all;
    }

    private static void nested() {
        holds("11: classes", classes().size() <= 12);
        for (Class<?> c : EmptyChairs.class.getDeclaredClasses()) {
            holds("2: static " + c, Modifier.isStatic(c.getModifiers()) && !Modifier.isPublic(c.getModifiers()));
            holds("2: nothing within " + c, c.getDeclaredClasses().length == 0);
        }
    }

    private static void words() {
        String code = source.replaceAll("/\\*[\\s\\S]*?\\*/", " ").replaceAll("//[^\n]*", " ")
            .replaceAll("\"[^\"\n]*\"", "\"\"").replaceAll("'[^'\n]+'", "0");
        for (String word : new String[] {"throw", "throws", "try", "catch", "finally", "synchronized", "assert", "package", "instanceof",
            "transient", "volatile", "native", "var", "Object", "System.out", "System.exit", "System.nanoTime", "Random", "Thread", "equals", "hashCode"}) {
            holds("no " + word, !Pattern.compile("\\b" + Pattern.quote(word) + "\\b").matcher(code).find());
        }
        holds("2: no lambda", !code.contains("->") && !code.contains("::"));
        holds("10: no texts joined by +", !code.contains("\"\" +") && !code.contains("+ \"\""));
        holds("4: Arrays alone is imported", code.replaceAll("import java\\.util\\.Arrays;", "").indexOf("import") < 0);
        Matcher m = Pattern.compile("\\b(Arrays|Math|Integer|Long|System)\\.(\\w+)").matcher(code);
        Set<String> used = new TreeSet<>();
        while (m.find()) {
            used.add(m.group(1) + "." + m.group(2));
        }
        holds("4: the library: " + used, Set.of("Arrays.fill", "Math.max", "Math.min", "Integer.bitCount", "System.arraycopy").containsAll(used));
        for (char sign : source.toCharArray()) {
            holds("4: signs 1 to 127", sign > 0 && sign < 128);
        }
    }

    private static void methodLengths() {
        int from = -1;
        String[] lines = source.split("\n");
        for (int i = 0; i < lines.length; i++) {
            if (lines[i].matches("(    |        )(public|private|static|boolean|int|long|void|[A-Z]\\w+)[^=;]*\\) \\{")) {
                from = i;
            }
            if (from >= 0 && lines[i].matches("(    |        )}")) {
                holds("11: a long method at line " + (from + 1), i - from < 60);
            }
        }
    }
}
