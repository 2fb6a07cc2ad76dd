import java.lang.reflect.Constructor;
import java.lang.reflect.Field;
import java.lang.reflect.Method;
import java.lang.reflect.Modifier;
import java.nio.file.Files;
import java.nio.file.Path;
import java.util.ArrayList;
import java.util.List;
import java.util.Set;
import java.util.TreeSet;
import java.util.regex.Matcher;
import java.util.regex.Pattern;

/** What can be seen from outside of ../shared/LANGUAGE.md: the face, the words that may not stand, the sizes. */
public final class LanguageTest {
    private static final Due DUE = new Due("LanguageTest");
    private static final String[] FACE = {
        "feed(int,int,int,int,int)int", "end(int)boolean", "plane()int", "cargo()int", "fault()int", "count(int)int",
        "pallet(int,int)int", "named()int", "spot(int,int)int", "in(int,int)int", "put(int,int)int", "off(int)int",
        "pour(int,int)int", "why()int", "where()int", "stage(int,int)int", "blocks(int)int", "loadings()int",
        "loading(int,int)int", "poured(int,int)int", "take(int)int", "handlings(int)int", "mend()int", "move(int)int",
        "mended()int", "spare(int)int", "swaps()int", "come(int,int)int", "drop(int)int", "again(int)int",
        "weigh(int,int)int", "undo()int", "image(int)boolean", "restore(int)boolean"};

    public static void main(String[] args) throws Exception {
        face();
        classes();
        words(Files.readString(Path.of("src/main/java/LoadSpans.java")));
        DUE.close();
    }

    private static void face() {
        Class<?> c = LoadSpans.class;
        DUE.is("public and final", c.getModifiers(), Modifier.PUBLIC | Modifier.FINAL);
        Set<String> due = new TreeSet<>(List.of(FACE));
        Set<String> found = new TreeSet<>();
        for (Method m : c.getDeclaredMethods()) {
            if (!Modifier.isPrivate(m.getModifiers()) && !m.isSynthetic()) {
                List<String> types = new ArrayList<>();
                for (Class<?> p : m.getParameterTypes()) {
                    types.add(p.getSimpleName());
                }
                found.add(m.getName() + "(" + String.join(",", types) + ")" + m.getReturnType());
                DUE.is(m.getName() + " is public", m.getModifiers(), Modifier.PUBLIC);
            }
        }
        DUE.is("the face is " + found, found.equals(due), true);
        for (Field f : c.getDeclaredFields()) {
            boolean open = !Modifier.isPrivate(f.getModifiers());
            DUE.is(f.getName() + " is not private", open, f.getName().equals("NONE"));
        }
        for (Constructor<?> made : c.getDeclaredConstructors()) {
            DUE.is("the constructor", made.getModifiers() == Modifier.PUBLIC && made.getParameterCount() == 0, true);
        }
    }

    private static void classes() {
        Class<?>[] inside = LoadSpans.class.getDeclaredClasses();
        DUE.is("some twelve classes", inside.length <= 11, true);
        members(LoadSpans.class);
        for (Class<?> c : inside) {
            int how = c.getModifiers();
            DUE.is(c.getName() + " is static", Modifier.isStatic(how), true);
            DUE.is(c.getName() + " is public or protected", Modifier.isPublic(how) || Modifier.isProtected(how), false);
            DUE.is(c.getName() + " has classes inside", c.getDeclaredClasses().length, 0);
            members(c);
        }
    }

    private static void members(Class<?> c) {
        int fields = 0;
        for (Field f : c.getDeclaredFields()) {
            boolean constant = Modifier.isStatic(f.getModifiers());
            fields += constant ? 0 : 1;
            DUE.is(f.getName() + " is static and not final", constant && !Modifier.isFinal(f.getModifiers()), false);
            DUE.is(f.getName() + " is of a type that may be: " + f.getType(), mayBe(f.getType()), true);
        }
        DUE.is(c.getName() + " has some twenty fields: " + fields, fields <= 20, true);
        Set<String> face = new TreeSet<>();
        List.of(FACE).forEach(f -> face.add(f.substring(0, f.indexOf('('))));
        for (Method m : c.getDeclaredMethods()) {
            boolean hidden = Modifier.isPrivate(m.getModifiers());
            DUE.is(c.getName() + "." + m.getName() + " bears a public name", hidden && face.contains(m.getName()), false);
            DUE.is(m.getName() + ": seven parameters at most", m.getParameterCount() <= 7, true);
            boolean types = mayBe(m.getReturnType());
            for (Class<?> type : m.getParameterTypes()) {
                types &= mayBe(type);
            }
            DUE.is(m.getName() + " is of types that may be", types, true);
        }
    }

    /** Numbers, truth values, texts, own classes, and one dimension of these: the program needs no more. */
    private static boolean mayBe(Class<?> type) {
        Class<?> one = type.isArray() ? type.getComponentType() : type;
        boolean own = one.getName().startsWith("LoadSpans");
        return own || one == int.class || one == long.class || one == boolean.class || type == String.class || type == void.class;
    }

    private static void words(String source) {
        String code = source.replaceAll("(?s)/\\*.*?\\*/", "").replaceAll("//.*", "").replaceAll("\"[^\"]*\"", "\"\"");
        for (String word : new String[] {"throw", "throws", "try", "catch", "finally", "synchronized", "assert", "import",
            "package", "equals", "hashCode", "toString", "instanceof", "float", "double", "native", "volatile", "enum",
            "record", "interface", "extends", "var", "yield"}) {
            DUE.is(word + " stands in the program", Pattern.compile("\\b" + word + "\\b").matcher(code).find(), false);
        }
        DUE.is("an arrow or a method reference", code.contains("->") || code.contains("::"), false);
        Matcher calls = Pattern.compile("\\b(System|Math|Arrays|Integer|Long)\\.(\\w+)").matcher(code);
        Set<String> library = Set.of("System.arraycopy", "Math.max", "Math.min", "Math.floorDiv");
        while (calls.find()) {
            boolean field = calls.group().equals("Integer.MAX_VALUE") || calls.group().equals("Integer.MIN_VALUE");
            DUE.is(calls.group(), field || library.contains(calls.group()), true);
        }
        for (int i = 0; i < source.length(); i++) {
            DUE.is("a sign above 127 at " + i, source.charAt(i) > 127, false);
        }
        methodLengths(source);
    }

    private static void methodLengths(String source) {
        String[] lines = source.split("\n");
        int begin = -1;
        String indent = "";
        for (int i = 0; i < lines.length; i++) {
            if (begin < 0 && lines[i].matches(" {4,8}[a-zA-Z].*\\) \\{")) {
                begin = i;
                indent = lines[i].replaceAll("\\S.*", "");
            } else if (begin >= 0 && lines[i].equals(indent + "}")) {
                DUE.is("lines of" + lines[begin] + " " + (i - begin), i - begin <= 50, true);
                begin = -1;
            }
        }
    }
}
