import java.lang.reflect.Constructor;
import java.lang.reflect.Field;
import java.lang.reflect.Method;
import java.lang.reflect.Modifier;
import java.nio.file.Files;
import java.nio.file.Path;
import java.util.Arrays;
import java.util.List;
import java.util.Set;
import java.util.TreeSet;
import java.util.regex.Matcher;
import java.util.regex.Pattern;

// The face of the class, and those rules of LANGUAGE.md that reflection or the text can show.
public final class LanguageTest {
    private static final Set<String> FACE = new TreeSet<>(List.of(
        "put(int,int)", "drop(int)", "sync()", "crash(int)", "get(int)", "view(int,int)", "next(int,int)",
        "hold(int)", "release(int)", "flush()", "merge(int,int)", "work(int)", "install()", "stop()", "high()",
        "files(int)", "file(int,int,int)", "entry(int,int,int,int)", "byteAt(int)", "log(int,int)", "count(int)",
        "check()"));
    private static final Set<String> CONSTANTS = new TreeSet<>(List.of("UNKNOWN", "BAD", "STATE", "FULL", "NONE"));
    private static final List<String> FORBIDDEN = List.of(
        "\\bthrow\\b", "\\bthrows\\b", "\\btry\\b", "\\bcatch\\b", "\\bsynchronized\\b", "\\bassert\\b", "->", "::",
        "Exact\\b", "\\bstatic\\s*\\{", "\\bpackage\\b", "\\bSystem\\b", "\\bObject\\b", "\\bhashCode\\b", "\\btoString\\b",
        "\\bequals\\b", "\\bThread\\b", "\\bvar\\b", "\"");

    private static int wrong = 0;

    private static void must(boolean holds, String rule) {
        if (!holds) {
            wrong++;
            System.out.println("not so: " + rule);
        }
    }

    public static void main(String[] args) throws Exception {
        face();
        for (Class<?> inner : LevelStore.class.getDeclaredClasses()) {
            must(Modifier.isStatic(inner.getModifiers()), inner + " is static");
            must(!Modifier.isPublic(inner.getModifiers()), inner + " is not public");
            members(inner);
        }
        must(LevelStore.class.getDeclaredClasses().length < 12, "at most twelve classes");
        members(LevelStore.class);
        text(Files.readString(Path.of("src/main/java/LevelStore.java")));
        System.out.println(wrong == 0 ? "the rules hold" : wrong + " rules do not hold");
        if (wrong != 0) {
            System.exit(1);
        }
    }

    private static String signature(Method method) {
        StringBuilder out = new StringBuilder(method.getName()).append('(');
        String comma = "";
        for (Class<?> type : method.getParameterTypes()) {
            out.append(comma).append(type.getName());
            comma = ",";
        }
        return out.append(')').toString();
    }

    private static void face() {
        Set<String> seen = new TreeSet<>();
        Set<String> names = new TreeSet<>();
        for (Method method : LevelStore.class.getDeclaredMethods()) {
            if (Modifier.isPublic(method.getModifiers())) {
                seen.add(signature(method));
                names.add(method.getName());
                must(method.getReturnType() == int.class, method + " answers an int");
                must(!Modifier.isStatic(method.getModifiers()), method + " is no static one");
            } else {
                must(Modifier.isPrivate(method.getModifiers()), method + " is private");
            }
        }
        must(seen.equals(FACE), "the public methods are " + FACE + ", not " + seen);
        for (Class<?> type : LevelStore.class.getDeclaredClasses()) {
            for (Method method : type.getDeclaredMethods()) {
                must(!names.contains(method.getName()), method + " has a name of its own");
            }
        }
        for (Method method : LevelStore.class.getDeclaredMethods()) {
            must(Modifier.isPublic(method.getModifiers()) || !names.contains(method.getName()), method + " has a name of its own");
        }
        Set<String> constants = new TreeSet<>();
        for (Field field : LevelStore.class.getDeclaredFields()) {
            if (Modifier.isPublic(field.getModifiers())) {
                constants.add(field.getName());
                must(Modifier.isStatic(field.getModifiers()) && Modifier.isFinal(field.getModifiers()), field + " is a constant");
            } else {
                must(Modifier.isPrivate(field.getModifiers()), field + " is private");
            }
        }
        must(constants.equals(CONSTANTS), "the constants are " + CONSTANTS + ", not " + constants);
        Constructor<?>[] constructors = LevelStore.class.getDeclaredConstructors();
        must(constructors.length == 1 && constructors[0].getParameterCount() == 0
            && Modifier.isPublic(constructors[0].getModifiers()), "one public constructor without parameters");
        must(Modifier.isFinal(LevelStore.class.getModifiers()) && Modifier.isPublic(LevelStore.class.getModifiers()),
            "the class is public and final");
        must(LevelStore.class.getInterfaces().length == 0 && LevelStore.class.getSuperclass() == Object.class,
            "the class stands alone");
    }

    private static void members(Class<?> type) {
        long fields = Arrays.stream(type.getDeclaredFields()).filter(f -> !Modifier.isStatic(f.getModifiers())).count();
        must(fields <= 20, type + " has at most twenty fields");
        for (Field field : type.getDeclaredFields()) {
            must(!Modifier.isStatic(field.getModifiers()) || Modifier.isFinal(field.getModifiers()), field + " is final");
        }
        for (Method method : type.getDeclaredMethods()) {
            must(method.getParameterCount() <= 7, method + " takes at most seven parameters");
        }
    }

    private static void text(String source) {
        String bare = source.replaceAll("(?s)/\\*.*?\\*/", "").replaceAll("//[^\n]*", "");
        for (String forbidden : FORBIDDEN) {
            Matcher found = Pattern.compile(forbidden).matcher(bare);
            must(!found.find(), "the class is without " + forbidden);
        }
        Matcher imports = Pattern.compile("import\\s+([^;]+);").matcher(bare);
        while (imports.find()) {
            must(imports.group(1).equals("java.util.ArrayList"), "no import of " + imports.group(1));
        }
        must(source.chars().allMatch(c -> c < 128), "plain characters alone");
        methodLengths(source);
    }

    private static void methodLengths(String source) {
        String[] lines = source.split("\n");
        int begin = -1;
        String indent = "";
        for (int i = 0; i < lines.length; i++) {
            if (begin < 0 && lines[i].matches("( {4}| {8})\\S.*\\) \\{")) {
                begin = i;
                indent = lines[i].replaceAll("\\S.*", "");
            } else if (begin >= 0 && lines[i].equals(indent + "}")) {
                must(i - begin < 60, "the method at line " + (begin + 1) + " has at most sixty lines");
                begin = -1;
            }
        }
    }
}
