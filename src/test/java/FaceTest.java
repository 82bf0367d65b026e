import java.lang.reflect.Constructor;
import java.lang.reflect.Field;
import java.lang.reflect.Method;
import java.lang.reflect.Modifier;
import java.nio.file.Files;
import java.nio.file.Path;
import java.util.Arrays;
import java.util.Set;
import java.util.TreeSet;
import java.util.regex.Matcher;
import java.util.regex.Pattern;

/** The document's face, all of it and no more, and those rules of LANGUAGE.md that a program can look at. */
public final class FaceTest {
    private static final String[] METHODS = {
        "sheet(int,int,int)", "set(int,int,int)", "copy(int,int,int,int,int)", "drop(int)", "board(int,int)",
        "cell(int,int)", "side(int,int)", "by(int,int)", "grown(int,int,int)", "far(int,int,int)",
        "way(int,int,int)", "walks(int,int,int)", "around(int,int)", "put(int,int)", "mouse(int)",
        "feed(long,int)", "run()", "fault()", "paint(int,int)", "paints(int,int,int,int)", "clashes()",
        "coloured(int,int)", "found(int,int,int)", "live(int,int)", "steps(int,int,int)", "living(int)",
        "turned(int,int)", "alike(int)", "orbits(int)", "kind(int)", "as(int,int)", "ask(int,int)", "trace(int)",
        "count(int)", "status()",
    };

    /** What the interface says ahead of calls, and the first of these. */
    private static final String[][] GROUPS = {
        {"sheets", "sheet"}, {"the board", "board"}, {"ways", "far"}, {"the mouse", "put"}, {"colours", "paint"},
        {"life", "live"}, {"asked", "kind"},
    };

    private static final Set<String> FIELD_TYPES = Set.of("int", "long", "boolean", "char", "String", "int[]",
        "long[]", "char[]", "byte[]");

    public static void main(String[] args) throws Exception {
        face();
        inside();
        groups(Files.readString(Path.of("src/main/java/FarBoards.java")));
        String source = plain(Files.readString(Path.of("src/main/java/FarBoards.java")));
        words(source);
        lengths(source);
        Due.end();
    }

    private static void face() {
        Class<?> face = FarBoards.class;
        Due.holds("1 public and final", Modifier.isPublic(face.getModifiers()) && Modifier.isFinal(face.getModifiers()));
        Set<String> got = new TreeSet<>();
        for (Method m : face.getDeclaredMethods()) {
            if (Modifier.isPrivate(m.getModifiers())) continue;
            Due.holds(m + " is public, not static", Modifier.isPublic(m.getModifiers()) && !Modifier.isStatic(m.getModifiers()));
            Due.holds(m + " answers an int", m.getReturnType() == int.class);
            StringBuilder types = new StringBuilder();
            for (Class<?> type : m.getParameterTypes()) types.append(types.length() > 0 ? "," : "").append(type.getName());
            got.add(m.getName() + "(" + types + ")");
        }
        Due.holds("the face is " + got, got.equals(new TreeSet<>(Arrays.asList(METHODS))));
        Set<String> constants = new TreeSet<>();
        for (Field f : face.getDeclaredFields()) if (!Modifier.isPrivate(f.getModifiers())) constants.add(f.getName());
        Due.holds("the constants are " + constants, constants.equals(Set.of("NONE", "BAD", "STATE", "FULL")));
        Constructor<?>[] made = face.getDeclaredConstructors();
        Due.holds("one public constructor", made.length == 1 && Modifier.isPublic(made[0].getModifiers())
            && made[0].getParameterCount() == 0);
    }

    /** The calls stand in the document's order, behind what the interface says ahead of them. */
    private static void groups(String source) {
        int at = 0;
        int group = 0;
        for (String method : METHODS) {
            String name = method.substring(0, method.indexOf('('));
            if (group < GROUPS.length && GROUPS[group][1].equals(name)) {
                at = source.indexOf("// ---- " + GROUPS[group][0] + "\n", at);
                Due.holds("---- " + GROUPS[group][0] + " ahead of " + name, at >= 0);
                group++;
            }
            at = source.indexOf("    public int " + name + "(", Math.max(0, at));
            Due.holds(name + " in the document's order", at >= 0);
        }
        Due.due("what the interface says", group, GROUPS.length);
    }

    private static void inside() {
        Set<String> names = new TreeSet<>();
        for (String method : METHODS) names.add(method.substring(0, method.indexOf('(')));
        Class<?>[] inner = FarBoards.class.getDeclaredClasses();
        Due.holds("rule 11: some twelve classes", inner.length + 1 <= 12);
        for (Class<?> c : inner) {
            Due.holds("rule 1: " + c + " is static", Modifier.isStatic(c.getModifiers()));
            Due.holds("rule 1: " + c + " is not public", !Modifier.isPublic(c.getModifiers())
                && !Modifier.isProtected(c.getModifiers()));
            for (Method m : c.getDeclaredMethods()) Due.holds("rule 1: the name of " + m, !names.contains(m.getName()));
            fields(c);
        }
        for (Method m : FarBoards.class.getDeclaredMethods()) {
            boolean hidden = Modifier.isPrivate(m.getModifiers());
            Due.holds("rule 1: the name of " + m, !hidden || !names.contains(m.getName()));
            Due.holds("rule 11: parameters of " + m, m.getParameterCount() <= 7);
        }
        fields(FarBoards.class);
    }

    private static void fields(Class<?> c) {
        int own = 0;
        for (Field f : c.getDeclaredFields()) {
            if (!Modifier.isStatic(f.getModifiers())) {
                own++;
                continue;
            }
            Due.holds("rule 5: " + f + " is final", Modifier.isFinal(f.getModifiers()));
            Due.holds("rule 5: the type of " + f, FIELD_TYPES.contains(f.getType().getSimpleName()));
        }
        Due.holds("rule 11: fields of " + c, own <= 20);
    }

    /** The source without its comments and texts. */
    private static String plain(String source) {
        String bare = source.replaceAll("(?s)/\\*.*?\\*/", "").replaceAll("//[^\n]*", "");
        return bare.replaceAll("\"(\\\\.|[^\"\\\\])*\"", "\"\"").replaceAll("'(\\\\.|[^'\\\\])'", "' '");
    }

    private static void words(String source) {
        String[] never = {"throw", "throws", "try", "catch", "finally", "synchronized", "assert", "package", "native",
            "volatile", "transient", "var", "equals", "hashCode", "toString", "NaN", "Object", "Exception", "Thread",
            "Random", "Optional", "Map", "Set", "Stream"};
        for (String word : never) {
            Due.holds("rules 3, 4, 6: the word " + word, !Pattern.compile("\\b" + word + "\\b").matcher(source).find());
        }
        Due.holds("rule 2: a lambda", !source.contains("->"));
        Due.holds("rule 2: a method reference", !source.contains("::"));
        Due.holds("rule 5: a static block", !Pattern.compile("static\\s*\\{").matcher(source).find());
        Due.holds("rule 4: a name that ends in Exact", !source.contains("Exact("));
        Matcher imports = Pattern.compile("import ([^;]+);").matcher(source);
        while (imports.find()) {
            Due.holds("rule 4: import " + imports.group(1), Set.of("java.util.Arrays", "java.util.ArrayList",
                "java.util.List", "java.util.Iterator").contains(imports.group(1)));
        }
        Matcher calls = Pattern.compile("\\b(Math|Arrays|System|Integer|Long)\\.(\\w+)").matcher(source);
        while (calls.find()) {
            Due.holds("rule 4: " + calls.group(), Set.of("Math.max", "Math.min", "Arrays.fill", "System.arraycopy")
                .contains(calls.group()));
        }
        Due.holds("ASCII alone", source.chars().allMatch(c -> c < 128));
    }

    private static void lengths(String source) {
        Matcher heads = Pattern.compile("(?m)^ +[\\w\\[\\] ]*\\w+ ?\\([^;{}()]*\\) \\{$").matcher(source);
        int seen = 0;
        while (heads.find()) {
            if (heads.group().trim().matches("(if|for|while|switch|\\}).*")) continue;
            int depth = 0;
            int lines = 1;
            for (int i = heads.end() - 1; i < source.length(); i++) {
                char c = source.charAt(i);
                depth += c == '{' ? 1 : c == '}' ? -1 : 0;
                lines += c == '\n' ? 1 : 0;
                if (depth == 0) break;
            }
            seen++;
            Due.holds("rule 11: " + heads.group().trim() + " has " + lines + " lines", lines <= 60);
        }
        Due.holds("methods were seen: " + seen, seen > METHODS.length);
    }
}
