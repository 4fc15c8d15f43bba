import java.lang.reflect.Array;
import java.lang.reflect.Constructor;
import java.lang.reflect.Field;
import java.lang.reflect.Method;
import java.lang.reflect.Modifier;
import java.nio.file.Files;
import java.nio.file.Path;
import java.util.ArrayList;
import java.util.Arrays;
import java.util.IdentityHashMap;
import java.util.List;
import java.util.Map;
import java.util.Set;
import java.util.TreeSet;
import java.util.regex.Matcher;
import java.util.regex.Pattern;

/** Rules of LANGUAGE.md that can be seen from the source or from the class. Run from the project's root. */
public final class LanguageTest {
    private static final String FACE = "status() top() bottom() tray(int,int,int) write(int,int,long) read(int,int) "
        + "pour(int,int,int,int,int) feed(int,int,int,int,int) court(int) trials(int) fault(int) told(int) mile(int) "
        + "person(int,int) knows(int,int) kin(int) known(int,int) oath(int,int) why(int,int,int,int) fee(int,int,int,int) "
        + "gainsaid(int,int,int,int) backed(int,int,int) voids(int,int,int,int) swear(int,int,int,int) find(int,int,int) "
        + "recant(int) earn(int,int) meet(int,int) ride(int) fits(int,int) road(int,int) canBe(int,int) ways(int,boolean) "
        + "reach(int,int,boolean) mostTrue(int) mostTrueSet(int) clashes(int) doubt(int) believed(int,int) "
        + "alibi(int,int,int,int) alibiBy(int) call(int,int) callBy(int) sayable(int,int) dearest(int,int) liar() doubted() "
        + "kept() word(int,int) liars(int) auction(int,int) hammer(int,int) live(int) lived(int) mean(int,int) mark() undo()";
    private static final Set<String> BOOLEANS = Set.of("tray", "write", "pour", "meet", "ride", "kept", "mean");
    private static final Set<String> LONGS = Set.of("top", "bottom", "read");
    private static final String[] RULED_OUT = {"throw", "throws", "try", "catch", "finally", "synchronized", "assert", "import",
        "package", "goto", "native", "volatile", "transient", "double", "float", "Object", "HashMap", "hashCode", "toString",
        "System\\.out", "nanoTime", "currentTimeMillis", "Random", "Thread", "\\w+Exact", "protected", "var"};

    private static final Check CHECK = new Check();

    public static void main(String[] args) throws Exception {
        String source = Files.readString(Path.of("src/main/java/OathTill.java"));
        String code = withoutCommentsAndTexts(source);
        face();
        insides();
        words(code);
        methods(code);
        room();
        CHECK.end();
    }

    private static String withoutCommentsAndTexts(String source) {
        return source.replaceAll("(?s)/\\*.*?\\*/", "").replaceAll("//[^\n]*", "").replaceAll("\"[^\"\n]*\"", "TEXT")
            .replaceAll("'(\\\\.|[^'])'", "SIGN");
    }

    private static void face() {
        Set<String> due = new TreeSet<>(Arrays.asList(FACE.split(" ")));
        Set<String> there = new TreeSet<>();
        for (Method m : OathTill.class.getDeclaredMethods()) {
            if (Modifier.isPublic(m.getModifiers())) {
                String types = Arrays.stream(m.getParameterTypes()).map(Class::getName).reduce((a, b) -> a + "," + b).orElse("");
                there.add(m.getName() + "(" + types + ")");
                String gives = BOOLEANS.contains(m.getName()) ? "boolean" : LONGS.contains(m.getName()) ? "long" : "int";
                CHECK.is("what " + m.getName() + " gives", m.getReturnType().getName().equals(gives), true);
                CHECK.is("static " + m.getName(), Modifier.isStatic(m.getModifiers()), false);
            } else {
                CHECK.is("private " + m.getName(), Modifier.isPrivate(m.getModifiers()), true);
            }
        }
        CHECK.is("the face is " + there, there.equals(due), true);
        for (Field f : OathTill.class.getDeclaredFields()) {
            boolean isNone = f.getName().equals("NONE") && Modifier.isPublic(f.getModifiers());
            CHECK.is("field " + f.getName(), isNone || Modifier.isPrivate(f.getModifiers()), true);
        }
        for (Constructor<?> c : OathTill.class.getDeclaredConstructors()) {
            CHECK.is("constructor", Modifier.isPublic(c.getModifiers()) && c.getParameterCount() == 0, true);
        }
        CHECK.is("final", Modifier.isFinal(OathTill.class.getModifiers()), true);
    }

    private static void insides() {
        Set<String> faceNames = new TreeSet<>();
        for (String one : FACE.split(" ")) {
            faceNames.add(one.substring(0, one.indexOf('(')));
        }
        List<Class<?>> classes = new ArrayList<>(Arrays.asList(OathTill.class.getDeclaredClasses()));
        for (Class<?> c : classes) {
            CHECK.is("static " + c, Modifier.isStatic(c.getModifiers()), true);
            CHECK.is("no class inside " + c, c.getDeclaredClasses().length, 0);
        }
        classes.add(OathTill.class);
        CHECK.is("twelve classes at most", classes.size() <= 12, true);
        for (Class<?> c : classes) {
            int own = 0;
            for (Field f : c.getDeclaredFields()) {
                own += Modifier.isStatic(f.getModifiers()) ? 0 : 1;
                CHECK.is("static state " + f, !Modifier.isStatic(f.getModifiers()) || Modifier.isFinal(f.getModifiers()), true);
            }
            CHECK.is("twenty fields at most in " + c, own <= 20, true);
            for (Method m : c.getDeclaredMethods()) {
                CHECK.is("seven parameters at most in " + m, m.getParameterCount() <= 7, true);
                boolean onFace = c == OathTill.class && Modifier.isPublic(m.getModifiers());
                CHECK.is("a name of the face: " + m, onFace || !faceNames.contains(m.getName()), true);
                CHECK.is("made by the compiler: " + m, m.isSynthetic(), false);
            }
        }
    }

    private static void words(String code) {
        for (String word : RULED_OUT) {
            CHECK.is("ruled out: " + word, Pattern.compile("\\b" + word + "\\b").matcher(code).find(), false);
        }
        CHECK.is("no lambda", code.contains("->"), false);
        CHECK.is("no method reference", code.contains("::"), false);
        CHECK.is("no static block", Pattern.compile("static\\s*\\{").matcher(code).find(), false);
        CHECK.is("no joining by +", Pattern.compile("TEXT\\s*\\+|\\+\\s*TEXT").matcher(code).find(), false);
        CHECK.is("signs 1 to 127", code.chars().allMatch(c -> c > 0 && c < 128), true);
    }

    /** Methods are short, and make no objects: what a run makes, its constructors make. */
    private static void methods(String code) {
        Matcher m = Pattern.compile("\n( {4}| {8})(?:public |private |static |final )*(int|long|boolean|void) (\\w+)\\([^)]*\\) \\{\n")
            .matcher(code);
        int seen = 0;
        while (m.find()) {
            int end = code.indexOf("\n" + m.group(1) + "}", m.start());
            String body = code.substring(m.start(), end);
            seen++;
            CHECK.is("lines of " + m.group(3), body.lines().count() <= 62, true);
            CHECK.is("new in " + m.group(3), Pattern.compile("\\bnew\\b|\\.clone\\(|copyOf").matcher(body).find(), false);
        }
        CHECK.is("methods were seen", seen > 150, true);
    }

    /** A run has room for some 600,000 objects and 7.3 million fields and elements: a thousand OathTills go into it. */
    private static void room() throws Exception {
        Map<Object, Boolean> seen = new IdentityHashMap<>();
        long parts = size(new OathTill(), seen);
        CHECK.is("objects of one OathTill: " + seen.size(), seen.size() <= 600, true);
        CHECK.is("fields and elements of one OathTill: " + parts, parts <= 7300, true);
    }

    private static long size(Object one, Map<Object, Boolean> seen) throws Exception {
        if (one == null || one instanceof String || seen.put(one, true) != null) {
            return 0;
        }
        long parts = 0;
        if (one.getClass().isArray()) {
            parts = Array.getLength(one);
            for (int i = 0; i < Array.getLength(one) && one instanceof Object[] row; i++) {
                parts += size(row[i], seen);
            }
            return parts;
        }
        for (Field f : one.getClass().getDeclaredFields()) {
            if (!Modifier.isStatic(f.getModifiers())) {
                parts++;
                f.setAccessible(true);
                parts += f.getType().isPrimitive() ? 0 : size(f.get(one), seen);
            }
        }
        return parts;
    }
}
