import java.io.IOException;
import java.lang.reflect.Constructor;
import java.lang.reflect.Field;
import java.lang.reflect.Method;
import java.lang.reflect.Modifier;
import java.nio.file.Files;
import java.nio.file.Path;
import java.util.Arrays;
import java.util.List;
import java.util.Set;
import java.util.TreeSet;
import java.util.regex.Matcher;
import java.util.regex.Pattern;

/** The document's face, and of the language's rules those that a program can look at. */
public final class LanguageTest {
    private static final Checks C = new Checks("LanguageTest");
    private static final String[] FACE = {
        "row(int,int,int)", "set(int,int,int)", "copy(int,int,int,int,int)", "drop(int)", "feed(long,int)", "town()",
        "fault()", "give(int,int,int)", "offer(int,int)", "back(int)", "undo()", "coin(int)", "thing(int,int)",
        "worth(int,int,int)", "gain(int,int,int,int)", "best(int,int,int)", "rests(int,int)", "rounds(int,int,int)",
        "least(int,int)", "lost(int,int,int)", "honest(int,int)", "ore(int,int)", "image(int)", "restore(int)",
        "kind(int)", "as(int,int)", "ask(int,int)", "trace(int)", "count(int)", "status()"};

    public static void main(String[] args) throws IOException {
        tellsTheConstants();
        hasTheFaceAlone();
        hidesTheRest();
        String source = Files.readString(Path.of(args[0]));
        usesNoForbiddenWord(source);
        keepsMethodsShort(source);
        makesObjectsOnlyAtFirst(source);
        C.end();
    }

    private static void tellsTheConstants() {
        C.due("NONE", LeastWants.NONE, -1000000);
        C.due("BAD", LeastWants.BAD, -1000001);
        C.due("STATE", LeastWants.STATE, -1000002);
        C.due("FULL", LeastWants.FULL, -1000003);
    }

    private static String form(Method m) {
        StringBuilder s = new StringBuilder(m.getName()).append('(');
        for (Class<?> p : m.getParameterTypes()) {
            s.append(s.charAt(s.length() - 1) == '(' ? "" : ",").append(p.getName());
        }
        return s.append(')').toString();
    }

    private static void yes(String what, boolean holds) {
        C.due(what, holds ? 1 : 0, 1);
    }

    private static void hasTheFaceAlone() {
        Set<String> found = new TreeSet<>();
        for (Method m : LeastWants.class.getDeclaredMethods()) {
            if (!Modifier.isPrivate(m.getModifiers())) {
                found.add(form(m));
                yes("public, not static, of int: " + m, Modifier.isPublic(m.getModifiers())
                    && !Modifier.isStatic(m.getModifiers()) && m.getReturnType() == int.class);
            }
        }
        yes("the methods are those of the document: " + found, found.equals(new TreeSet<>(List.of(FACE))));
        for (Field f : LeastWants.class.getDeclaredFields()) {
            boolean told = List.of("NONE", "BAD", "STATE", "FULL").contains(f.getName());
            yes("a field is told, or private: " + f, told == !Modifier.isPrivate(f.getModifiers()));
        }
        Constructor<?>[] made = LeastWants.class.getDeclaredConstructors();
        yes("one public constructor", made.length == 1 && Modifier.isPublic(made[0].getModifiers())
            && made[0].getParameterCount() == 0);
        int mods = LeastWants.class.getModifiers();
        yes("a public final class", Modifier.isPublic(mods) && Modifier.isFinal(mods));
    }

    private static void hidesTheRest() {
        Set<String> face = new TreeSet<>();
        for (String f : FACE) {
            face.add(f.substring(0, f.indexOf('(')));
        }
        Class<?>[] inside = LeastWants.class.getDeclaredClasses();
        yes("some twelve classes", inside.length < 12);
        List<Class<?>> all = new java.util.ArrayList<>(Arrays.asList(inside));
        all.add(LeastWants.class);
        for (Class<?> c : all) {
            int mods = c.getModifiers();
            if (c != LeastWants.class) {
                yes("a static class, not public: " + c, Modifier.isStatic(mods) && !Modifier.isPublic(mods)
                    && !Modifier.isProtected(mods));
            }
            yes("no classes deeper inside " + c, c == LeastWants.class || c.getDeclaredClasses().length == 0);
            int own = 0;
            for (Field f : c.getDeclaredFields()) {
                boolean fixed = Modifier.isStatic(f.getModifiers());
                own += fixed ? 0 : 1;
                yes("a static field is final: " + f, !fixed || Modifier.isFinal(f.getModifiers()));
                yes("a row of rows is of numbers: " + f, !f.getType().isArray()
                    || !f.getType().getComponentType().isArray());
            }
            yes("some twenty fields: " + c, own <= 20);
            for (Method m : c.getDeclaredMethods()) {
                yes("seven parameters at most: " + m, m.getParameterCount() <= 7);
                boolean told = c == LeastWants.class && Modifier.isPublic(m.getModifiers());
                yes("no other method bears a name of the face: " + m, told || !face.contains(m.getName()));
            }
        }
    }

    private static String bare(String source) {
        return source.replaceAll("(?s)/\\*.*?\\*/", "").replaceAll("//[^\n]*", "");
    }

    private static void usesNoForbiddenWord(String source) {
        String code = bare(source);
        String[] words = {"throw", "throws", "try", "catch", "finally", "synchronized", "assert", "import", "package",
            "equals", "hashCode", "toString", "volatile", "native", "yield", "var", "Object", "Random", "Thread",
            "protected", "double", "float"};
        for (String w : words) {
            yes("no " + w, !Pattern.compile("\\b" + w + "\\b").matcher(code).find());
        }
        yes("no arrows", !code.contains("->") && !code.contains("::"));
        yes("no function whose name ends in Exact", !code.contains("Exact"));
        yes("signs 1 to 127 alone", source.chars().allMatch(c -> c > 0 && c < 127));
        Matcher m = Pattern.compile("\\b(System|Math|Integer|Long|Arrays|String|StringBuilder|List|ArrayList)\\.(\\w+)")
            .matcher(code);
        while (m.find()) {
            yes("of the library's list: " + m.group(), Set.of("System.arraycopy", "Math.min", "Math.max")
                .contains(m.group()));
        }
        yes("no joining by +", !code.contains("\" +") && !code.contains("+ \""));
    }

    private static void keepsMethodsShort(String source) {
        String[] lines = source.split("\n");
        int begun = -1;
        String end = "";
        int methods = 0;
        for (int i = 0; i < lines.length; i++) {
            Matcher m = Pattern.compile("^( {4}| {8})(?=\\S)[\\w\\[\\] ]+\\([^)]*\\) \\{$").matcher(lines[i]);
            if (begun < 0 && m.find()) {
                begun = i;
                end = m.group(1) + "}";
            } else if (begun >= 0 && lines[i].equals(end)) {
                yes("sixty lines at most: " + lines[begun], i - begun < 60);
                begun = -1;
                methods++;
            }
        }
        yes("methods were seen", methods > 60);
    }

    /** All calls of a run live in one room: no call may make an object. */
    private static void makesObjectsOnlyAtFirst(String source) {
        String code = bare(source);
        int from = code.indexOf("public LeastWants() {");
        int to = code.indexOf("\n    }\n", from);
        String rest = code.substring(0, from) + code.substring(to);
        for (String line : rest.split("\n")) {
            if (Pattern.compile("\\bnew\\b").matcher(line).find()) {
                yes("made in a field: " + line.trim(), line.matches(" {8}(private )?final \\S+ \\w+ = new [^;]*;"));
            }
        }
    }
}
