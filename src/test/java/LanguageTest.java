import java.io.IOException;
import java.lang.reflect.Field;
import java.lang.reflect.Method;
import java.lang.reflect.Modifier;
import java.nio.file.Files;
import java.nio.file.Path;
import java.util.ArrayList;
import java.util.List;
import java.util.Set;
import java.util.TreeSet;
import java.util.regex.Matcher;
import java.util.regex.Pattern;

/** That the class keeps to ../shared/LANGUAGE.md, as far as it can be seen from outside. */
public final class LanguageTest {
    private static final List<String> FACE = List.of("player 4 int", "course 4 int", "week 2 boolean", "round 4 int",
            "bet 3 boolean", "seed 1 boolean", "feed 5 int", "law 1 int", "fault 0 int", "rule 1 int", "run 2 int",
            "gift 2 int", "score 4 int", "place 2 int", "won 4 int", "cut 3 int", "luck 4 long", "back 5 int",
            "skill 4 long", "span 4 int", "best 1 int", "years 1 int", "odds 3 int", "need 2 int", "lasts 5 int",
            "most 3 int", "right 3 long", "listed 3 int", "line 4 int", "held 2 int", "worth 4 long", "cost 5 long",
            "pressed 2 long", "other 1 int", "beside 2 long", "image 0 int", "restore 1 boolean", "count 1 int");
    private static final List<String> BANNED = List.of("throw", "throws", "try", "catch", "finally", "synchronized", "assert",
            "native", "volatile", "transient", "var", "double", "float", "System.out", "System.err", "System.exit",
            "nanoTime", "currentTimeMillis", "Random", "Thread", "Object", "hashCode", "toString", "Exact", "goto", "yield");
    private static int wrong = 0;

    private LanguageTest() {
    }

    public static void main(String[] args) throws IOException {
        face();
        members();
        String source = Files.readString(Path.of("src/main/java/LuckLinks.java"));
        String bare = source.replaceAll("(?s)/\\*.*?\\*/", "").replaceAll("//[^\n]*", "");
        words(bare);
        lengths(source);
        System.out.println("LanguageTest: " + wrong + " things wrong");
        if (wrong > 0) {
            System.exit(1);
        }
    }

    private static void hold(boolean isSo, String what) {
        if (!isSo) {
            wrong++;
            System.out.println(what);
        }
    }

    private static void face() {
        Set<String> found = new TreeSet<>();
        for (Method method : LuckLinks.class.getDeclaredMethods()) {
            if (Modifier.isPublic(method.getModifiers())) {
                hold(!Modifier.isStatic(method.getModifiers()), method + " is static");
                found.add(method.getName() + " " + method.getParameterCount() + " " + method.getReturnType());
                for (Class<?> type : method.getParameterTypes()) {
                    hold(type == int.class, method + " takes a " + type);
                }
            } else {
                hold(Modifier.isPrivate(method.getModifiers()) || method.isSynthetic(), method + " is neither public nor private");
            }
        }
        hold(found.equals(new TreeSet<>(FACE)), "the public face is " + found);
        hold(LuckLinks.class.getConstructors().length == 1, "there is one public constructor");
        hold(LuckLinks.class.getDeclaredConstructors().length == 1, "there is one constructor");
        hold(Modifier.isFinal(LuckLinks.class.getModifiers()), "the class is final");
        hold(LuckLinks.class.getPackageName().isEmpty(), "the class has no package");
        for (Field field : LuckLinks.class.getDeclaredFields()) {
            boolean isNone = field.getName().equals("NONE") && Modifier.isPublic(field.getModifiers());
            hold(isNone || Modifier.isPrivate(field.getModifiers()), field + " is neither NONE nor private");
        }
    }

    private static void members() {
        Set<String> names = new TreeSet<>();
        FACE.forEach(one -> names.add(one.split(" ")[0]));
        List<Class<?>> classes = new ArrayList<>(List.of(LuckLinks.class.getDeclaredClasses()));
        hold(classes.size() <= 12, "there are " + classes.size() + " classes inside");
        for (Class<?> one : classes) {
            hold(Modifier.isStatic(one.getModifiers()), one + " isn't static");
            hold(!Modifier.isPublic(one.getModifiers()) && !Modifier.isProtected(one.getModifiers()), one + " can be seen");
            for (Method method : one.getDeclaredMethods()) {
                hold(!names.contains(method.getName()), method + " bears a name of the face");
            }
        }
        classes.add(LuckLinks.class);
        for (Class<?> one : classes) {
            int fields = 0;
            for (Field field : one.getDeclaredFields()) {
                boolean isStatic = Modifier.isStatic(field.getModifiers());
                fields += isStatic ? 0 : 1;
                hold(!isStatic || Modifier.isFinal(field.getModifiers()), field + " is static and not final");
                hold(!isStatic || field.getType() == int.class || field.getType() == long.class, field + " is no constant");
            }
            hold(fields <= 20, one + " has " + fields + " fields");
            for (Method method : one.getDeclaredMethods()) {
                boolean isPrivate = Modifier.isPrivate(method.getModifiers());
                hold(!isPrivate || !names.contains(method.getName()), method + " bears a name of the face");
                hold(method.getParameterCount() <= 7, method + " takes too much");
            }
        }
    }

    private static void words(String bare) {
        for (String word : BANNED) {
            hold(!Pattern.compile("\\b" + Pattern.quote(word) + "\\b").matcher(bare).find(), "the word " + word);
        }
        hold(!bare.contains("->") && !bare.contains("::"), "a lambda or method reference");
        hold(!bare.contains("@"), "an annotation");
        hold(!bare.contains("package "), "a package line");
        Matcher imports = Pattern.compile("import ([^;]*);").matcher(bare);
        while (imports.find()) {
            hold(Set.of("java.util.Arrays", "java.util.ArrayList", "java.util.List").contains(imports.group(1)), imports.group());
        }
        Matcher calls = Pattern.compile("\\b(Arrays|System|Math|Integer|Long|String)\\.(\\w+)").matcher(bare);
        Set<String> allowed = Set.of("Arrays.fill", "Arrays.copyOf", "System.arraycopy", "Math.max", "Math.min", "Math.abs",
                "Math.floorDiv", "Math.floorMod", "Integer.bitCount", "Integer.compare", "Long.compare");
        while (calls.find()) {
            hold(allowed.contains(calls.group()), "the library's " + calls.group());
        }
        hold(!Pattern.compile("while \\(true\\)|for \\(;;").matcher(bare).find(), "a loop without an end");
        hold(bare.chars().allMatch(c -> c < 128), "a sign above 127");
    }

    /** Each method's brackets stand alone at four or eight blanks. */
    private static void lengths(String source) {
        String[] lines = source.split("\n");
        for (int at = 0; at < lines.length; at++) {
            hold(lines[at].length() <= 120, "line " + (at + 1) + " is long");
            Matcher head = Pattern.compile("^( {4}| {8})[^ /*].*\\) \\{$").matcher(lines[at]);
            if (head.find()) {
                int end = at;
                while (end < lines.length && !lines[end].equals(head.group(1) + "}")) {
                    end++;
                }
                hold(end - at <= 60, "the method at line " + (at + 1) + " has " + (end - at) + " lines");
            }
        }
    }
}
