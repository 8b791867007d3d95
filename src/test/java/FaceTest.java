import java.io.IOException;
import java.lang.reflect.Constructor;
import java.lang.reflect.Field;
import java.lang.reflect.Method;
import java.lang.reflect.Modifier;
import java.nio.file.Files;
import java.nio.file.Path;
import java.util.Arrays;
import java.util.Set;
import java.util.TreeSet;
import java.util.regex.Matcher;
import java.util.regex.Pattern;

/** The public face of the document, and those rules of LANGUAGE.md that can be read off the class and its text. */
public final class FaceTest {
    private static final String[] FACE = {"power 2", "deeper 3", "level 3", "policy 3", "request 3", "forget 1",
        "told 2", "end 1", "journal 1", "disk 2", "at 3", "fate 1", "waiting 1", "least 2", "limited 3", "costs 2",
        "worst 3", "drawn 4", "count 1", "image 1", "restore 1"};
    private static final String[] CONSTANTS = {"UNKNOWN", "OUTSIDE", "STATE", "FULL", "NO", "NONE"};

    public static void main(String[] args) throws IOException {
        theClass();
        methods();
        constants();
        classesInside();
        wordsOfTheText(Files.readString(Path.of("src/main/java/DiskRests.java")));
        Due.finish();
    }

    private static void theClass() {
        Class<?> c = DiskRests.class;
        Due.holds("public and final", Modifier.isPublic(c.getModifiers()) && Modifier.isFinal(c.getModifiers()));
        Constructor<?>[] all = c.getDeclaredConstructors();
        Due.due("constructors", all.length, 1);
        Due.holds("a public constructor of nothing",
                Modifier.isPublic(all[0].getModifiers()) && all[0].getParameterCount() == 0);
    }

    private static Set<String> namesOfTheFace() {
        Set<String> names = new TreeSet<>();
        for (String row : FACE) {
            names.add(row.substring(0, row.indexOf(' ')));
        }
        return names;
    }

    private static void methods() {
        Set<String> open = new TreeSet<>();
        Set<String> names = namesOfTheFace();
        for (Method m : DiskRests.class.getDeclaredMethods()) {
            if (Modifier.isPrivate(m.getModifiers())) {
                Due.holds("a name of its own: " + m.getName(), !names.contains(m.getName()));
            } else {
                open.add(m.getName() + " " + m.getParameterCount());
                boolean ints = m.getReturnType() == int.class
                        && Arrays.stream(m.getParameterTypes()).allMatch(t -> t == int.class);
                Due.holds("public, of ints: " + m, ints && Modifier.isPublic(m.getModifiers())
                        && !Modifier.isStatic(m.getModifiers()));
            }
        }
        Due.holds("the methods of the document: " + open, open.equals(new TreeSet<>(Arrays.asList(FACE))));
    }

    private static void constants() {
        int[] values = {DiskRests.UNKNOWN, DiskRests.OUTSIDE, DiskRests.STATE,
            DiskRests.FULL, DiskRests.NO, DiskRests.NONE};
        for (int i = 0; i < values.length; i++) {
            Due.due(CONSTANTS[i], values[i], -1 - i);
        }
        Set<String> open = new TreeSet<>();
        for (Field f : DiskRests.class.getDeclaredFields()) {
            if (!Modifier.isPrivate(f.getModifiers())) {
                open.add(f.getName());
            }
            boolean fixed = Modifier.isFinal(f.getModifiers());
            Due.holds("static fields are final: " + f, fixed || !Modifier.isStatic(f.getModifiers()));
        }
        Due.holds("the constants of the document: " + open, open.equals(new TreeSet<>(Arrays.asList(CONSTANTS))));
    }

    private static void classesInside() {
        Class<?>[] inside = DiskRests.class.getDeclaredClasses();
        Due.holds("at most twelve classes", inside.length < 12);
        for (Class<?> c : inside) {
            int m = c.getModifiers();
            Due.holds("static, not public: " + c,
                    Modifier.isStatic(m) && !Modifier.isPublic(m) && !Modifier.isProtected(m));
            Due.holds("at most twenty fields: " + c, c.getDeclaredFields().length <= 20);
            for (Method method : c.getDeclaredMethods()) {
                Due.holds("at most seven parameters: " + method, method.getParameterCount() <= 7);
                Due.holds("a name of its own: " + method, !namesOfTheFace().contains(method.getName()));
            }
            for (Field field : c.getDeclaredFields()) {
                int f = field.getModifiers();
                Due.holds("static fields are final: " + field, Modifier.isFinal(f) || !Modifier.isStatic(f));
            }
        }
    }

    private static void wordsOfTheText(String text) {
        Matcher found = Pattern.compile("\\b(throw|throws|try|catch|synchronized|assert|import|package|Object"
                + "|Exception|Random|System\\.(?!arraycopy)\\w+|\\w+Exact)\\b|->|::|static\\s*\\{")
                .matcher(text.replaceAll("/\\*[\\s\\S]*?\\*/|//.*", ""));
        while (found.find()) {
            Due.holds("the text is without '" + found.group() + "'", false);
        }
    }
}
