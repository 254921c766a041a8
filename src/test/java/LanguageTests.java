import java.io.IOException;
import java.lang.reflect.Constructor;
import java.lang.reflect.Field;
import java.lang.reflect.InvocationTargetException;
import java.lang.reflect.Method;
import java.lang.reflect.Modifier;
import java.nio.file.Files;
import java.nio.file.Path;
import java.util.ArrayList;
import java.util.List;
import java.util.Map;
import java.util.Random;
import java.util.Set;
import java.util.TreeMap;
import java.util.TreeSet;
import java.util.regex.Matcher;
import java.util.regex.Pattern;

/** The face, the rules of LANGUAGE.md that can be read from class and source, and that no call throws. */
public final class LanguageTests {
    private static final Path SOURCE = Path.of("src/main/java/OverTheHeads.java");
    private static final Set<String> FACE = new TreeSet<>(List.of(
        "int sort(int, int, int)", "int row(int, int, int)", "int set(int, int, int)", "int sit(int, int, int)",
        "int told(int, int, int)", "int point(int, int, int)", "int post(int, int)", "int moves(int, int, int)",
        "int count(int)", "int feed(long, int)", "int text()", "int force(int)", "int hidden(int, int, int)",
        "int sees(int, int)", "int worth(int, int)", "int price(int, int)", "int all(int)", "int cost()",
        "int lawful(int)", "int judge(int)", "long chance(int, int, int, int)", "long mean(int, int, int)",
        "int tall(int)", "int needs(int)", "int proof(int)", "int shifts(int)", "int coin(int, int)", "int stage()",
        "int swap(int, int, int, int)", "int people(int, int)", "int settle(int, int)", "int hat(int, int, int)",
        "int least(int)", "int sell(int)", "int flat()", "int thursday(int)", "int image()", "int back()",
        "int sheet(int, int, int)", "int cell(int, int, int)", "int copy(int, int, int, int, int)",
        "int sitters(int, int, int, int)", "int taken(int, int)"));

    private static final List<Class<?>> CLASSES = new ArrayList<>();

    public static void main(String[] args) throws IOException {
        CLASSES.add(OverTheHeads.class);
        CLASSES.addAll(List.of(OverTheHeads.class.getDeclaredClasses()));
        face();
        classes();
        String source = Files.readString(SOURCE);
        words(source);
        lengths(source);
        depths(source);
        for (int run = 0; run < 300; run++) {
            nothingThrows(new Random(run));
        }
        Due.end();
    }

    private static String told(Method method) {
        StringBuilder told = new StringBuilder(method.getReturnType().getSimpleName()).append(' ').append(method.getName()).append('(');
        for (Class<?> type : method.getParameterTypes()) {
            told.append(told.charAt(told.length() - 1) == '(' ? "" : ", ").append(type.getSimpleName());
        }
        return told.append(')').toString();
    }

    private static void face() {
        Due.that("public and final", OverTheHeads.class.getModifiers() == (Modifier.PUBLIC | Modifier.FINAL));
        Set<String> open = new TreeSet<>();
        for (Method method : OverTheHeads.class.getDeclaredMethods()) {
            if (!Modifier.isPrivate(method.getModifiers())) {
                open.add(told(method));
                Due.that(method + " is public alone", method.getModifiers() == Modifier.PUBLIC);
            }
        }
        Due.that("the face: " + open, open.equals(FACE));
        Constructor<?>[] made = OverTheHeads.class.getDeclaredConstructors();
        Due.that("one constructor", made.length == 1 && made[0].getParameterCount() == 0 && made[0].getModifiers() == Modifier.PUBLIC);
        Set<String> fields = new TreeSet<>();
        for (Field field : OverTheHeads.class.getDeclaredFields()) {
            if (!Modifier.isPrivate(field.getModifiers())) {
                fields.add(field.getType() + " " + field.getName());
                Due.that(field + " is a constant", field.getModifiers() == (Modifier.PUBLIC | Modifier.STATIC | Modifier.FINAL));
            }
        }
        Due.that("the constants: " + fields, fields.equals(new TreeSet<>(List.of("int NONE", "int BAD", "int STATE", "int FULL", "long NO"))));
    }

    private static void classes() {
        Due.that("twelve classes at most", CLASSES.size() <= 12);
        Set<String> names = new TreeSet<>();
        for (String method : FACE) {
            names.add(method.replaceAll("^\\w+ |\\(.*", ""));
        }
        for (Class<?> c : CLASSES) {
            boolean inside = c != OverTheHeads.class;
            Due.that(c + " is static inside", !inside || Modifier.isStatic(c.getModifiers()) && !Modifier.isPublic(c.getModifiers()));
            Due.that(c + " has no classes inside", !inside || c.getDeclaredClasses().length == 0);
            int fields = 0;
            for (Field field : c.getDeclaredFields()) {
                boolean constant = Modifier.isStatic(field.getModifiers());
                fields += constant ? 0 : 1;
                Due.that(field + " is final", !constant || Modifier.isFinal(field.getModifiers()));
            }
            Due.that(c + " has twenty fields at most", fields <= 20);
            for (Method method : c.getDeclaredMethods()) {
                Due.that(method + " takes seven at most", method.getParameterCount() <= 7);
                boolean open = !inside && Modifier.isPublic(method.getModifiers());
                Due.that(method + " has a name of its own", open || !names.contains(method.getName()));
            }
        }
    }

    private static void words(String source) {
        String bare = source.replaceAll("(?s)/\\*.*?\\*/|//[^\n]*", " ").replaceAll("\"[^\"\n]*\"|'.'", "0");
        String forbidden = "throw throws try catch finally synchronized assert import package float double var record enum interface"
            + " volatile transient native protected yield equals hashCode toString";
        for (String word : forbidden.split(" ")) {
            Due.that("no " + word, !Pattern.compile("\\b" + word + "\\b").matcher(bare).find());
        }
        for (String sign : List.of("->", "::", "\"\"\"", "@", "?>", "...")) {
            Due.that("no " + sign, !bare.contains(sign));
        }
        Matcher library = Pattern.compile("\\b(java|javax)\\.|\\b(System|Arrays|Integer|Long|String|StringBuilder|List|ArrayList|Math)\\.(\\w+)").matcher(bare);
        while (library.find()) {
            Due.that("of the library: " + library.group(), Set.of("System.arraycopy", "Math.min", "Math.max", "Math.abs").contains(library.group()));
        }
        for (int i = 0; i < source.length(); i++) {
            if (source.charAt(i) > 126) {
                Due.that("plain signs in the source", false);
            }
        }
    }

    /** No method is longer than some sixty lines. */
    private static void lengths(String source) {
        String[] lines = source.split("\n");
        int start = -1;
        String indent = "";
        for (int i = 0; i < lines.length; i++) {
            if (start < 0 && lines[i].matches(" {4,8}[\\w\\[\\]<> ]+\\([^;=]*\\) \\{")) {
                start = i;
                indent = lines[i].replaceAll("\\S.*", "");
            } else if (start >= 0 && lines[i].equals(indent + "}")) {
                Due.that("short enough: " + lines[start].strip(), i - start <= 60);
                start = -1;
            }
        }
    }

    /** Calls that are no recursion go eight deep at most; by names alone, so of like names all are meant. */
    private static void depths(String source) {
        Map<String, Set<String>> calls = new TreeMap<>();
        String[] lines = source.split("\n");
        Pattern header = Pattern.compile("( {4,8})[\\w\\[\\]<> ]*?(\\w+)\\([^;=]*\\) \\{");
        for (int i = 0; i < lines.length; i++) {
            Matcher begins = header.matcher(lines[i]);
            if (begins.matches() && !Set.of("if", "for", "while", "switch").contains(begins.group(2))) {
                Set<String> called = calls.computeIfAbsent(begins.group(2), name -> new TreeSet<>());
                for (i++; !lines[i].equals(begins.group(1) + "}"); i++) {
                    Matcher call = Pattern.compile("(\\w+)\\(").matcher(lines[i].replaceAll("//.*", ""));
                    while (call.find()) {
                        called.add(call.group(1));
                    }
                }
            }
        }
        Due.that("methods are found: " + calls.size(), calls.size() > 100 && calls.get("people").contains("bestSwap"));
        for (String method : FACE) {
            String name = method.replaceAll("^\\w+ |\\(.*", "");
            int deep = depth(name, calls, new ArrayList<>());
            Due.that(name + " goes eight deep at most: " + deep, deep <= 8);
        }
    }

    /** How deep calls go from a method on; what is open already (a recursion) counts no more. */
    private static int depth(String name, Map<String, Set<String>> calls, List<String> open) {
        if (!calls.containsKey(name) || open.contains(name)) {
            return 0;
        }
        open.add(name);
        int deepest = 0;
        for (String called : calls.get(name)) {
            // the Reader's methods from readOr to readOne call one another: a recursion
            int own = called.equals(name) || isInRecursion(name) && isInRecursion(called) ? -1 : 0;
            deepest = Math.max(deepest, own + depth(called, calls, open));
        }
        open.remove(name);
        return 1 + deepest;
    }

    private static boolean isInRecursion(String name) {
        return Set.of("readOr", "readAnd", "readNot", "readComparison", "readSum", "readTerm", "readOne").contains(name);
    }

    /** Any numbers in any state: an answer, always. */
    private static void nothingThrows(Random random) {
        OverTheHeads x = new OverTheHeads();
        List<Method> methods = new ArrayList<>();
        for (Method method : OverTheHeads.class.getDeclaredMethods()) {
            if (Modifier.isPublic(method.getModifiers())) {
                methods.add(method);
            }
        }
        methods.sort((a, b) -> told(a).compareTo(told(b)));
        int[] edges = {Integer.MIN_VALUE, Integer.MIN_VALUE + 1, -60, -14, -2, -1, 7, 8, 9, 59, 60, 61, 159, 160, Integer.MAX_VALUE - 1, Integer.MAX_VALUE};
        for (int call = 0; call < 512; call++) {
            Method method = methods.get(random.nextInt(methods.size()));
            Object[] numbers = new Object[method.getParameterCount()];
            for (int i = 0; i < numbers.length; i++) {
                int n = random.nextInt(8) == 0 ? edges[random.nextInt(edges.length)] : random.nextInt(random.nextBoolean() ? 3 : 7);
                numbers[i] = method.getParameterTypes()[i] == long.class ? (Object) random.nextLong() : (Object) n;
            }
            try {
                method.invoke(x, numbers);
            } catch (InvocationTargetException e) {
                Due.that(method + " " + List.of(numbers) + " threw " + e.getCause(), false);
            } catch (IllegalAccessException e) {
                Due.that(e.toString(), false);
            }
        }
    }
}
