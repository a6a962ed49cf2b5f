import java.io.IOException;
import java.lang.reflect.Constructor;
import java.lang.reflect.Field;
import java.lang.reflect.Method;
import java.lang.reflect.Modifier;
import java.nio.charset.StandardCharsets;
import java.nio.file.Files;
import java.nio.file.Path;
import java.util.Arrays;
import java.util.Comparator;
import java.util.Random;
import java.util.Set;
import java.util.TreeSet;
import java.util.regex.Matcher;
import java.util.regex.Pattern;

/** The face of the class, and those rules of ../shared/LANGUAGE.md that can be seen from its outside or its words. */
public final class FaceTest {
    private static final Path SOURCE = Path.of("src", "main", "java", "PlaceRegister.java");
    private static final Set<String> METHODS = Set.of("feed6", "found3", "rename2", "move3", "split2", "merge3", "close2",
        "run0", "reason0", "on3", "of2", "event3", "again2", "lookup2", "sought1", "filter2", "join3", "drop1", "fits2",
        "write1", "paper1", "changed2", "longest2", "account2", "back0", "image0", "undo0", "count1");
    private static boolean wrong = false;

    private static void hold(boolean held, String what) {
        if (!held) {
            wrong = true;
            System.out.println("broken: " + what);
        }
    }

    public static void main(String[] args) throws IOException {
        face();
        for (Class<?> inner : PlaceRegister.class.getDeclaredClasses()) {
            inside(inner);
        }
        hold(PlaceRegister.class.getDeclaredClasses().length <= 12, "some twelve classes");
        words();
        for (long seed = 0; seed < 40; seed++) {
            anyCalls(new Random(seed));
        }
        if (wrong) {
            System.exit(1);
        }
        System.out.println("the face and the words are as the rules say");
    }

    private static void face() {
        Class<?> face = PlaceRegister.class;
        hold(Modifier.isPublic(face.getModifiers()) && Modifier.isFinal(face.getModifiers()), "public and final");
        Constructor<?>[] constructors = face.getDeclaredConstructors();
        hold(constructors.length == 1 && Modifier.isPublic(constructors[0].getModifiers()), "one public constructor");
        Set<String> open = new TreeSet<>();
        Set<String> names = new TreeSet<>();
        for (Method m : face.getDeclaredMethods()) {
            if (Modifier.isPrivate(m.getModifiers())) {
                hold(!isOfTheFace(m.getName()), m.getName() + " bears the name of a public method");
            } else {
                open.add(m.getName() + m.getParameterCount());
                names.add(m.getName());
                hold(Modifier.isPublic(m.getModifiers()) && !Modifier.isStatic(m.getModifiers()), m.getName());
                hold(m.getReturnType() == int.class, m.getName() + " answers int");
            }
            hold(m.getParameterCount() <= 7, m.getName() + " has at most seven parameters");
        }
        hold(open.equals(METHODS), "the methods are " + open);
        Set<String> constants = new TreeSet<>();
        for (Field f : face.getDeclaredFields()) {
            if (!Modifier.isPrivate(f.getModifiers())) {
                constants.add(f.getName());
                hold(Modifier.isStatic(f.getModifiers()) && f.getType() == int.class, f.getName());
            }
            hold(!Modifier.isStatic(f.getModifiers()) || Modifier.isFinal(f.getModifiers()), f.getName() + " is final");
        }
        hold(constants.equals(Set.of("NONE", "BAD", "STATE", "FULL")), "the constants are " + constants);
    }

    private static void inside(Class<?> inner) {
        hold(Modifier.isStatic(inner.getModifiers()), inner.getName() + " is static");
        int fields = 0;
        for (Field f : inner.getDeclaredFields()) {
            boolean fixed = Modifier.isStatic(f.getModifiers());
            hold(!fixed || Modifier.isFinal(f.getModifiers()), f.getName() + " is final");
            fields += fixed ? 0 : 1;
        }
        hold(fields <= 20, inner.getName() + " has some twenty fields");
        for (Method m : inner.getDeclaredMethods()) {
            hold(m.getParameterCount() <= 7, m.getName() + " has at most seven parameters");
            hold(!isOfTheFace(m.getName()), inner.getName() + "." + m.getName() + " bears the name of a public method");
        }
    }

    private static boolean isOfTheFace(String name) {
        return METHODS.stream().anyMatch(p -> p.substring(0, p.length() - 1).equals(name));
    }

    /** No call throws, for any arguments in any state, also behind the 512th one. */
    private static void anyCalls(Random random) {
        Method[] methods = Arrays.stream(PlaceRegister.class.getMethods())
            .filter(m -> m.getDeclaringClass() == PlaceRegister.class).sorted(Comparator.comparing(Method::getName))
            .toArray(Method[]::new);
        PlaceRegister x = new PlaceRegister();
        for (int call = 0; call < 4000; call++) {
            Method m = random.nextInt(3) == 0 ? null : methods[random.nextInt(methods.length)];
            try {
                if (m == null) {
                    x.feed(1, 'a' + random.nextInt(26), 0, 0, 0, 0);
                } else {
                    m.invoke(x, Arrays.stream(m.getParameterTypes()).map(t -> (Object) anyNumber(random)).toArray());
                }
            } catch (ReflectiveOperationException e) {
                hold(false, m.getName() + " threw " + e.getCause());
                return;
            }
        }
    }

    private static int anyNumber(Random random) {
        int[] edges = {Integer.MIN_VALUE, Integer.MAX_VALUE, -1, 127, 128, 9999, 10000, 19, 20, 23, 24};
        return switch (random.nextInt(12)) {
            case 0 -> edges[random.nextInt(edges.length)];
            case 1 -> random.nextInt();
            case 2 -> random.nextInt(10000);
            default -> random.nextInt(5);
        };
    }

    private static void words() throws IOException {
        String source = Files.readString(SOURCE, StandardCharsets.US_ASCII);
        String code = source.replaceAll("(?s)/\\*.*?\\*/", " ").replaceAll("//[^\n]*", " ")
            .replaceAll("\"[^\"\n]*\"", "\"\"").replaceAll("'[^'\n]*'", "' '");
        Matcher m = Pattern.compile("\\b(throw|throws|try|catch|synchronized|assert|package|protected|equals|hashCode"
            + "|toString|System\\.(?!arraycopy)\\w+|native|volatile|transient|\\w*Exact|yield|var)\\b|->|::|\"\" *\\+|\\+ *\"\"")
            .matcher(code);
        while (m.find()) {
            hold(false, "the word " + m.group());
        }
        m = Pattern.compile("import ([^;]*);").matcher(code);
        while (m.find()) {
            hold(Set.of("java.util.ArrayList", "java.util.Arrays").contains(m.group(1)), "the import of " + m.group(1));
        }
        m = Pattern.compile("\n    (?:    )?\\w[^\n;=]*\\) \\{\n((?:[^\n]*\n)*?)    (?:    )?\\}\n").matcher(code);
        while (m.find()) {
            hold(m.group(1).split("\n").length <= 60, "a long method:" + m.group());
        }
    }
}
