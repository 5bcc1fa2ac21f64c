import java.io.IOException;
import java.lang.reflect.Constructor;
import java.lang.reflect.Field;
import java.lang.reflect.Method;
import java.lang.reflect.Modifier;
import java.nio.file.Files;
import java.nio.file.Path;
import java.util.Arrays;
import java.util.HashSet;
import java.util.Set;
import java.util.TreeSet;
import java.util.regex.Matcher;
import java.util.regex.Pattern;

/** The public face is the document's and no more, and the class keeps to the language's plainer rules. */
public final class FaceTest {
    private static final String[] FACE = {
        "public static final int BAD_ARG",
        "public static final int FULL",
        "public DagTiler()",
        "public int DagTiler.number(int)",
        "public int DagTiler.input(int)",
        "public int DagTiler.add(int,int)",
        "public int DagTiler.sub(int,int)",
        "public int DagTiler.mul(int,int)",
        "public int DagTiler.neg(int)",
        "public int DagTiler.shift(int,int)",
        "public int DagTiler.fetch(int)",
        "public int DagTiler.less(int,int)",
        "public int DagTiler.pick(int,int,int)",
        "public int DagTiler.write(int,int)",
        "public int DagTiler.result(int,int)",
        "public int DagTiler.nodes()",
        "public void DagTiler.clear()",
        "public int DagTiler.setInput(int,int)",
        "public int DagTiler.setWord(int,int)",
        "public int DagTiler.word(int)",
        "public int DagTiler.run()",
        "public boolean DagTiler.known(int)",
        "public int DagTiler.value(int)",
        "public int DagTiler.digest()",
    };

    private static int wrong = 0;

    private static void must(boolean holds, String what) {
        if (!holds) {
            wrong++;
            System.out.println("not so: " + what);
        }
    }

    public static void main(String[] args) throws IOException {
        face();
        fields();
        methods();
        text(Files.readString(Path.of("src/main/java/DagTiler.java")));
        System.out.println(wrong == 0 ? "the face is the document's" : wrong + " things are not as due");
        if (wrong != 0) {
            System.exit(1);
        }
    }

    private static void face() {
        Set<String> seen = new TreeSet<>();
        for (Field f : DagTiler.class.getDeclaredFields()) {
            if (!Modifier.isPrivate(f.getModifiers())) {
                seen.add(Modifier.toString(f.getModifiers()) + " " + f.getType() + " " + f.getName());
            }
        }
        for (Constructor<?> c : DagTiler.class.getDeclaredConstructors()) {
            seen.add(c.toString());
        }
        for (Method m : DagTiler.class.getDeclaredMethods()) {
            if (!Modifier.isPrivate(m.getModifiers())) {
                seen.add(m.toString());
            }
        }
        Set<String> wanted = new TreeSet<>(Arrays.asList(FACE));
        must(seen.equals(wanted), "the public face is " + wanted + ", seen is " + seen);
        must(DagTiler.class.getModifiers() == (Modifier.PUBLIC | Modifier.FINAL), "public and final");
        must(DagTiler.class.getPackageName().isEmpty(), "no package");
        must(DagTiler.class.getDeclaredClasses().length == 0, "no nested class");
        must(DagTiler.class.getSuperclass() == Object.class, "no parent class");
        must(DagTiler.class.getInterfaces().length == 0, "no interface");
    }

    private static void fields() {
        int held = 0;
        for (Field f : DagTiler.class.getDeclaredFields()) {
            boolean fixed = Modifier.isStatic(f.getModifiers());
            Class<?> type = f.getType();
            if (fixed) {
                must(Modifier.isFinal(f.getModifiers()) && (type == int.class || type == long.class),
                        f.getName() + " is a constant of int or long");
            } else {
                held++;
                must(isPlain(type) || type.isArray() && isPlain(type.getComponentType()),
                        f.getName() + " is a whole number, a boolean or a row of these");
                must(!type.isArray() || Modifier.isFinal(f.getModifiers()), f.getName() + " is made once");
            }
        }
        must(held <= 40, "at most 40 fields, seen are " + held);
    }

    private static boolean isPlain(Class<?> type) {
        return type.isPrimitive() && type != float.class && type != double.class;
    }

    private static void methods() {
        Set<String> open = new HashSet<>();
        for (Method m : DagTiler.class.getDeclaredMethods()) {
            if (Modifier.isPublic(m.getModifiers())) {
                open.add(m.getName());
            }
        }
        for (Method m : DagTiler.class.getDeclaredMethods()) {
            must(m.getParameterCount() <= 7, m.getName() + " takes at most seven parameters");
            must(!m.getReturnType().isArray(), m.getName() + " answers no array");
            must(Modifier.isPublic(m.getModifiers()) || !open.contains(m.getName()),
                    m.getName() + " is no private method with a public one's name");
        }
    }

    private static void text(String source) {
        String code = source.replaceAll("(?s)/\\*.*?\\*/", " ").replaceAll("//[^\n]*", " ");
        Matcher word = Pattern.compile("\\b(import|package|float|double|String|Math|Integer|System|Arrays|Object"
                + "|throw|throws|try|catch|synchronized|assert|instanceof|null|enum|record|interface)\\b"
                + "|->|::|\"").matcher(code);
        while (word.find()) {
            must(false, "the program does without " + word.group());
        }
        Matcher made = Pattern.compile("(?m)^.*\\bnew\\b.*$").matcher(code);
        while (made.find()) {
            must(made.group().matches(" {4}private final \\w+\\[] \\w+ = new \\w+\\[[A-Z_]+];"),
                    "made in a field's initialiser: " + made.group().trim());
        }
    }
}
