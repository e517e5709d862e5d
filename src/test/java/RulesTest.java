import java.lang.reflect.Constructor;
import java.lang.reflect.Field;
import java.lang.reflect.Method;
import java.lang.reflect.Modifier;
import java.nio.file.Files;
import java.nio.file.Path;
import java.util.ArrayList;
import java.util.Arrays;
import java.util.List;
import java.util.Set;
import java.util.TreeSet;

/** The document's public face, and the rules of LANGUAGE.md as far as they can be seen from outside. */
final class RulesTest {
    private static final Due due = new Due();
    private static final String FACE = "int one(int,int,int)|boolean brim(int,int)|boolean standard(int)|"
        + "int feed(int,int,int,int,int)|int end(int)|int text()|int fault(int)|boolean by(int)|"
        + "int deed(int,int,int)|int weep(int,int)|int wash(int,int,int)|int pour(int,int)|int bend(int)|"
        + "int shrink(int)|int day(int)|int played(int)|int centuries(int,int)|int undo()|int of(int,int)|"
        + "int drops(int,int,int)|int is(int)|int book(int,int)|int foretold(int,int,int)|"
        + "int firstBrim(int,int,int)|int plan(int,int)|int within(int)|long wrongly(int,int,int,boolean)|"
        + "int howOften(int,int,int)|boolean way(int,int,int)|int round(int)|int year(int,int)|int shrunk(int)|"
        + "int wouldTell()|int against(int,int,boolean)|int even(int,boolean)|int worst()|int moreDents(int)|"
        + "int cases(int)|int dried(int,int,int)|int whose()|boolean costs(int,int)|int game(int,boolean)|"
        + "int fined(int)|int fines(int)|int sober(int)|int heaviest()|int image()|int back()|int about(int)";

    public static void main(String[] args) throws Exception {
        face();
        insideClasses();
        source(Files.readString(Path.of("src/main/java/ThimbleLaw.java")));
        due.end("RulesTest");
    }

    private static String shown(Method m) {
        List<String> parts = new ArrayList<>();
        for (Class<?> c : m.getParameterTypes()) {
            parts.add(c.getSimpleName());
        }
        return m.getReturnType().getSimpleName() + " " + m.getName() + "(" + String.join(",", parts) + ")";
    }

    private static void face() {
        Set<String> want = new TreeSet<>(Arrays.asList(FACE.split("\\|")));
        Set<String> got = new TreeSet<>();
        Set<String> names = new TreeSet<>();
        for (Method m : ThimbleLaw.class.getDeclaredMethods()) {
            if (!Modifier.isPrivate(m.getModifiers())) {
                got.add(shown(m));
                names.add(m.getName());
                due.is("public and no more: " + m, m.getModifiers(), Modifier.PUBLIC);
            }
        }
        due.is("the face's methods: " + got, got.equals(want), true);
        due.is("promises 2 to 50 are as many", want.size(), 49);
        for (Constructor<?> c : ThimbleLaw.class.getDeclaredConstructors()) {
            due.is("public constructor without parameters", Modifier.isPublic(c.getModifiers())
                && c.getParameterCount() == 0, true);
        }
        for (Field f : ThimbleLaw.class.getDeclaredFields()) {
            boolean isNone = f.getName().equals("NONE");
            due.is("hidden: " + f, Modifier.isPrivate(f.getModifiers()), !isNone);
        }
        due.is("public and final", ThimbleLaw.class.getModifiers(), Modifier.PUBLIC | Modifier.FINAL);
        for (Class<?> c : allClasses()) {
            for (Method m : c.getDeclaredMethods()) {
                boolean inner = c != ThimbleLaw.class || Modifier.isPrivate(m.getModifiers());
                due.is("no name of the face: " + m, inner && names.contains(m.getName()), false);
            }
        }
    }

    private static List<Class<?>> allClasses() {
        List<Class<?>> all = new ArrayList<>();
        all.add(ThimbleLaw.class);
        all.addAll(Arrays.asList(ThimbleLaw.class.getDeclaredClasses()));
        return all;
    }

    private static void insideClasses() {
        due.is("some twelve classes", allClasses().size() <= 13, true);
        for (Class<?> c : allClasses()) {
            int fields = 0;
            for (Field f : c.getDeclaredFields()) {
                boolean isStatic = Modifier.isStatic(f.getModifiers());
                fields += isStatic ? 0 : 1;
                due.is("static is final: " + f, isStatic && !Modifier.isFinal(f.getModifiers()), false);
            }
            due.is("some twenty fields: " + c, fields <= 20, true);
            due.is("static inside: " + c, c == ThimbleLaw.class || Modifier.isStatic(c.getModifiers()), true);
            for (Method m : c.getDeclaredMethods()) {
                due.is("seven parameters at most: " + m, m.getParameterCount() <= 7, true);
            }
        }
    }

    private static void source(String text) {
        String code = text.replaceAll("(?s)/\\*.*?\\*/", "").replaceAll("//.*", "").replaceAll("\"[^\"]*\"", "\"\"");
        for (String word : List.of("throw", "throws", "try", "catch", "finally", "synchronized", "assert", "import",
            "package", "volatile", "transient", "native", "strictfp", "System\\.(?!arraycopy)\\w+", "\\w+Exact",
            "instanceof", "float", "double", "while", "do")) {
            due.is("not used: " + word, code.matches("(?s).*\\b" + word + "\\b.*"), false);
        }
        for (String sign : List.of("->", "::", "\"\" +", "+ \"\"", "?>")) {
            due.is("not used: " + sign, code.contains(sign), false);
        }
        for (int i = 0; i < text.length(); i++) {
            if (text.charAt(i) != '\n' && (text.charAt(i) < 32 || text.charAt(i) > 126)) {
                due.is("plain signs", i, -1);
            }
        }
        shortMethods(code);
        nothingMadeByCalls(code);
    }

    private static void shortMethods(String code) {
        int start = -1;
        String[] lines = code.split("\n");
        for (int i = 0; i < lines.length; i++) {
            if (lines[i].matches("(    |        )[\\w\\[\\] ]+\\(.*\\{")) {
                start = i;
            } else if (start >= 0 && lines[i].matches("(    |        )\\}")) {
                due.is("sixty lines at most: " + lines[start].trim(), i - start + 1 <= 60, true);
                start = -1;
            }
        }
    }

    /** All rows are made with the object, so that no run of calls fills the room. */
    private static void nothingMadeByCalls(String code) {
        for (String line : code.split("\n")) {
            if (line.contains("new ")) {
                boolean made = line.matches("    (    )?(private )?final [\\w\\[\\]]+ \\w+ = new .*")
                    || line.trim().equals("texts[i] = new Text();");
                due.is("made by a call: " + line.trim(), made, true);
            }
        }
    }
}
