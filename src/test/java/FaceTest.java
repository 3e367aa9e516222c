import java.io.IOException;
import java.lang.reflect.Constructor;
import java.lang.reflect.Field;
import java.lang.reflect.Method;
import java.lang.reflect.Modifier;
import java.nio.file.Files;
import java.nio.file.Path;
import java.util.Arrays;
import java.util.Map;
import java.util.Set;
import java.util.TreeMap;
import java.util.TreeSet;
import java.util.regex.Matcher;
import java.util.regex.Pattern;

/** The public face of the document, and the rules of LANGUAGE.md that a test can look at. */
public final class FaceTest {
    private static final Check CHECK = new Check("FaceTest");
    private static final Set<String> METHODS = Set.of(
        "boolean online[int, boolean]", "boolean terms[int, int, int, int]", "int open[int, int, int, int]",
        "int pay[int, int, int, int]", "int route[int, int, int, int]", "int most[int, int]", "boolean close[int]",
        "boolean renew[int, int, int]", "boolean publish[int, int, int]", "int block[int]", "int party[int, int]",
        "int channel[int, int]", "int state[int, int, int]", "int lock[int, int, int, int]", "int height[]");

    public static void main(String[] args) throws IOException {
        constants();
        methods();
        fields();
        types();
        words();
        calls();
        loops();
        CHECK.end();
    }

    private static void constants() {
        CHECK.due("NONE", ChannelWeb.NONE, -1);
        CHECK.due("REFUSED", ChannelWeb.REFUSED, -2);
        CHECK.due("FULL", ChannelWeb.FULL, -3);
    }

    private static void methods() {
        CHECK.due("the class's modifiers", ChannelWeb.class.getModifiers(), Modifier.PUBLIC | Modifier.FINAL);
        CHECK.due("nested classes", ChannelWeb.class.getDeclaredClasses().length, 0);
        Constructor<?>[] constructors = ChannelWeb.class.getDeclaredConstructors();
        CHECK.due("constructors", constructors.length, 1);
        CHECK.due("public constructor without parameters",
            constructors[0].getParameterCount() == 0 && Modifier.isPublic(constructors[0].getModifiers()), true);
        Set<String> open = new TreeSet<>();
        Set<String> openNames = new TreeSet<>();
        for (Method m : ChannelWeb.class.getDeclaredMethods()) {
            if (!Modifier.isPrivate(m.getModifiers())) {
                String[] types = Arrays.stream(m.getParameterTypes()).map(Class::getName).toArray(String[]::new);
                open.add(m.getReturnType() + " " + m.getName() + Arrays.toString(types));
                openNames.add(m.getName());
                CHECK.due(m.getName() + "'s modifiers", m.getModifiers(), Modifier.PUBLIC);
            }
            CHECK.due(m.getName() + " takes at most 7", m.getParameterCount() <= 7, true);
        }
        CHECK.due("the methods are those of the document", open.equals(METHODS), true);
        for (Method m : ChannelWeb.class.getDeclaredMethods()) {
            CHECK.due("private " + m.getName() + " has its own name",
                !Modifier.isPrivate(m.getModifiers()) || !openNames.contains(m.getName()), true);
        }
    }

    private static void fields() {
        Set<String> open = new TreeSet<>();
        int ofObject = 0;
        for (Field f : ChannelWeb.class.getDeclaredFields()) {
            if (!Modifier.isPrivate(f.getModifiers())) {
                open.add(f.getName());
            }
            if (Modifier.isStatic(f.getModifiers())) {
                CHECK.due("static " + f.getName() + " is a final number",
                    Modifier.isFinal(f.getModifiers()) && (f.getType() == int.class || f.getType() == long.class), true);
            } else {
                ofObject++;
            }
        }
        CHECK.due("the open fields are the constants", open.equals(Set.of("NONE", "REFUSED", "FULL")), true);
        CHECK.due("at most forty fields", ofObject <= 40, true);
    }

    private static void types() {
        Set<Class<?>> numbers = Set.of(int.class, long.class, short.class, byte.class, char.class, boolean.class);
        for (Field f : ChannelWeb.class.getDeclaredFields()) {
            Class<?> type = f.getType().isArray() ? f.getType().getComponentType() : f.getType();
            CHECK.due(f.getName() + " is of numbers", numbers.contains(type), true);
            CHECK.due(f.getName() + " stays the array that it is",
                !f.getType().isArray() || Modifier.isFinal(f.getModifiers()), true);
        }
        for (Method m : ChannelWeb.class.getDeclaredMethods()) {
            CHECK.due(m.getName() + " answers a number or nothing",
                m.getReturnType() == void.class || numbers.contains(m.getReturnType()), true);
            CHECK.due(m.getName() + " takes numbers", numbers.containsAll(Arrays.asList(m.getParameterTypes())), true);
        }
    }

    private static String code() throws IOException {
        return Files.readString(Path.of("src/main/java/ChannelWeb.java")).replaceAll("//[^\n]*", "");
    }

    /** The bodies of the methods, by their names. */
    private static Map<String, String> bodies() throws IOException {
        Map<String, String> bodies = new TreeMap<>();
        Matcher method = Pattern.compile("(?ms)^    (?:public|private) [a-z ]*?(\\w+)\\([^)]*\\) \\{$(.*?)^    \\}$").matcher(code());
        while (method.find()) {
            bodies.put(method.group(1), method.group(2));
        }
        return bodies;
    }

    private static void calls() throws IOException {
        Map<String, String> bodies = bodies();
        CHECK.due("the methods and the constructor", bodies.size(), ChannelWeb.class.getDeclaredMethods().length + 1);
        Pattern call = Pattern.compile("\\b(" + String.join("|", bodies.keySet()) + ")\\(");
        for (String name : bodies.keySet()) {
            String body = bodies.get(name);
            CHECK.due(name + " is of at most sixty lines", body.lines().count() <= 60, true);
            CHECK.due(name + " calls at most six deep", depth(name, bodies, call, 0) <= 6, true);
            Matcher one = call.matcher(body);
            while (one.find()) {
                CHECK.due("a call stands in the arguments of " + one.group(1) + " in " + name,
                    call.matcher(arguments(body, one.end())).find(), false);
            }
        }
    }

    /** Loops are told by a counter against a bound, in one way each. */
    private static void loops() throws IOException {
        CHECK.due("loops without a counter", Pattern.compile("\\b(while|do)\\b").matcher(code()).find(), false);
        Matcher loop = Pattern.compile("for \\((.*)\\) \\{\n").matcher(code());
        Pattern up = Pattern.compile("int (\\w+) = [^;]+; \\1 <=? [^;]+; \\1\\+\\+");
        Pattern down = Pattern.compile("int (\\w+) = [^;]+; \\1 >= 0; \\1--");
        while (loop.find()) {
            String head = loop.group(1);
            CHECK.due("the loop " + head + " counts", up.matcher(head).matches() || down.matcher(head).matches(), true);
        }
    }

    /** How deep calls go from a method on; a method that calls itself through others goes deeper than all methods together. */
    private static int depth(String name, Map<String, String> bodies, Pattern call, int above) {
        int deepest = 0;
        Matcher one = call.matcher(bodies.get(name));
        while (one.find() && above < bodies.size()) {
            deepest = Math.max(deepest, depth(one.group(1), bodies, call, above + 1));
        }
        return deepest + 1;
    }

    private static String arguments(String body, int from) {
        int open = 1;
        int to = from;
        while (open > 0) {
            open += body.charAt(to) == '(' ? 1 : body.charAt(to) == ')' ? -1 : 0;
            to++;
        }
        return body.substring(from, to);
    }

    private static void words() throws IOException {
        String code = code();
        String[] ruledOut = {"import", "package", "throw", "throws", "try", "catch", "synchronized", "assert", "instanceof",
            "null", "float", "double", "String", "Math", "Integer", "System", "Arrays", "Object", "enum", "record",
            "interface", "protected", "->", "::", "\"", "@"};
        for (String word : ruledOut) {
            String quoted = Character.isLetter(word.charAt(0)) ? "\\b" + word + "\\b" : Pattern.quote(word);
            CHECK.due("the code has " + word, Pattern.compile(quoted).matcher(code).find(), false);
        }
        CHECK.due("the code reaches into another class or object by a dot", code.contains("."), false);
        Set<String> called = new TreeSet<>();
        Matcher name = Pattern.compile("(\\w+) ?\\(").matcher(code);
        while (name.find()) {
            called.add(name.group(1));
        }
        called.removeAll(bodies().keySet());
        called.removeAll(Set.of("if", "for", "switch", "return"));
        CHECK.due("calls of others than the class's own methods: " + called, called.size(), 0);
        String methodsOnly = code.substring(code.indexOf("public ChannelWeb()"));
        CHECK.due("a method makes something new", Pattern.compile("\\bnew\\b").matcher(methodsOnly).find(), false);
    }
}
