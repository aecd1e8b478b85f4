import java.io.IOException;
import java.lang.reflect.Constructor;
import java.lang.reflect.Field;
import java.lang.reflect.Method;
import java.lang.reflect.Modifier;
import java.nio.file.Files;
import java.nio.file.Path;
import java.util.ArrayList;
import java.util.Arrays;
import java.util.List;
import java.util.Set;
import java.util.TreeSet;
import java.util.regex.Matcher;
import java.util.regex.Pattern;

/** The face of the class, and the rules of LANGUAGE.md as far as they can be seen without reading. */
public final class SourceTest {
    private static final String FACE = "boolean seats(int,int);int ahead(int,int);int air(int,int);int back(int);"
        + "int comes(int,int,int);int count(int);int end(int);int feed(int,int,int,int,int);int force(int);"
        + "int gains(int,int,int,int);int image(int);int journeys(int,int,int,int);int log(int,int);int look(int);int mile();"
        + "int person(int,int);int plan(int,int);int pull(int);int rests(int,int,int);int rule();int ruled(int);int say(int,int);"
        + "int seat(int);int seed(int);int sit(boolean,int);int stretch(int,int);int swing(int);int train();int turn(int);"
        + "int undo();int which(boolean,int)";
    private static final String[] FORBIDDEN = {"throw", "throws", "try", "catch", "synchronized", "assert", "native", "volatile",
        "transient", "Object", "System.out", "Random", "Thread", "hashCode", "toString", "Exact", "record", "strictfp"};
    private static int wrong = 0;

    public static void main(String[] args) throws IOException {
        face();
        for (Class<?> inside : classes()) {
            fields(inside);
            methods(inside);
        }
        source(Files.readString(Path.of("src/main/java/StrapWindow.java")));
        System.out.println(wrong + " rules broken");
        if (wrong != 0) {
            System.exit(1);
        }
    }

    private static void rule(int number, boolean kept, String what) {
        if (!kept) {
            wrong++;
            System.out.println("rule " + number + ": " + what);
        }
    }

    private static List<Class<?>> classes() {
        List<Class<?>> all = new ArrayList<>(Arrays.asList(StrapWindow.class.getDeclaredClasses()));
        all.add(StrapWindow.class);
        return all;
    }

    private static void face() {
        Class<StrapWindow> face = StrapWindow.class;
        rule(1, Modifier.isPublic(face.getModifiers()) && Modifier.isFinal(face.getModifiers()), "the class");
        Set<String> shown = new TreeSet<>();
        Set<String> names = new TreeSet<>();
        for (Method m : face.getDeclaredMethods()) {
            if (!Modifier.isPrivate(m.getModifiers())) {
                String types = String.join(",", Arrays.stream(m.getParameterTypes()).map(Class::getName).toList());
                shown.add(m.getReturnType().getName() + " " + m.getName() + "(" + types + ")");
                names.add(m.getName());
                rule(1, Modifier.isPublic(m.getModifiers()), m.getName());
            }
        }
        rule(1, String.join(";", shown).equals(FACE), String.join(";", shown));
        for (Class<?> inside : classes()) {
            for (Method m : inside.getDeclaredMethods()) {
                boolean own = inside == face && Modifier.isPublic(m.getModifiers());
                rule(1, own || !names.contains(m.getName()), "a method bears a public one's name: " + m);
            }
        }
        for (Field f : face.getDeclaredFields()) {
            rule(1, Modifier.isPrivate(f.getModifiers()) || f.getName().equals("NONE"), f.getName());
        }
        for (Constructor<?> c : face.getDeclaredConstructors()) {
            rule(1, Modifier.isPublic(c.getModifiers()) && c.getParameterCount() == 0, "the constructor");
        }
        rule(11, classes().size() <= 12, "classes");
    }

    private static void fields(Class<?> inside) {
        int own = 0;
        for (Field f : inside.getDeclaredFields()) {
            boolean isStatic = Modifier.isStatic(f.getModifiers());
            rule(5, !isStatic || Modifier.isFinal(f.getModifiers()), "static " + f.getName());
            own += isStatic ? 0 : 1;
        }
        rule(11, own <= 20, "fields of " + inside);
        rule(2, inside == StrapWindow.class || Modifier.isStatic(inside.getModifiers()), inside + " is static");
        rule(2, inside == StrapWindow.class || inside.getDeclaredClasses().length == 0, inside + " has a class inside");
    }

    private static void methods(Class<?> inside) {
        for (Method m : inside.getDeclaredMethods()) {
            rule(11, m.getParameterCount() <= 7, "parameters of " + m);
            rule(2, !m.isSynthetic(), "a lambda in " + inside);
        }
    }

    private static void source(String text) {
        String code = text.replaceAll("(?s)/\\*.*?\\*/", "").replaceAll("//[^\n]*", "")
            .replaceAll("'\\\\?.'", "0").replaceAll("\"[^\"\n]*\"", "0");
        for (String word : FORBIDDEN) {
            rule(6, !Pattern.compile("\\b" + Pattern.quote(word) + "\\b").matcher(code).find(), word);
        }
        rule(2, !code.contains("->") && !code.contains("::"), "a lambda or a reference to a method");
        rule(5, !Pattern.compile("static\\s*\\{").matcher(code).find(), "a static block");
        rule(9, !Pattern.compile("while\\s*\\(\\s*true|for\\s*\\(\\s*;\\s*;").matcher(code).find(), "a loop without an end");
        Matcher imports = Pattern.compile("import ([^;]*);").matcher(code);
        while (imports.find()) {
            rule(4, List.of("java.util.Arrays", "java.util.ArrayList", "java.util.List").contains(imports.group(1)), imports.group());
        }
        rule(3, !text.contains("package "), "a package");
        rule(3, text.chars().allMatch(c -> c < 127), "a sign that is none of 1 to 126");
        calls(code);
        lengths(code);
    }

    private static void calls(String code) {
        Matcher library = Pattern.compile("\\b(Math|Arrays|System|Integer|Long)\\.(\\w+)").matcher(code);
        while (library.find()) {
            rule(4, List.of("max", "min", "abs", "bitCount", "compare", "floorDiv", "floorMod", "fill", "copyOf", "copyOfRange",
                "arraycopy").contains(library.group(2)), library.group());
        }
    }

    private static void lengths(String code) {
        Matcher heads = Pattern.compile("(?m)^( +)(?:[\\w\\[\\]]+ )+\\w+\\([^)]*\\) \\{$").matcher(code);
        while (heads.find()) {
            int close = code.indexOf("\n" + heads.group(1) + "}", heads.end());
            long lines = code.substring(heads.start(), close).lines().count();
            rule(11, lines <= 60, lines + " lines: " + heads.group().trim());
        }
    }
}
