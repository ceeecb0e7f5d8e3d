import java.lang.reflect.Constructor;
import java.lang.reflect.Field;
import java.lang.reflect.Method;
import java.lang.reflect.Modifier;
import java.nio.file.Files;
import java.nio.file.Path;
import java.util.ArrayList;
import java.util.List;
import java.util.Set;
import java.util.TreeSet;
import java.util.regex.Matcher;
import java.util.regex.Pattern;

/** The public face of the document, and the rules of LANGUAGE.md that can be seen from outside. */
public final class FaceTest {
    private static final Due DUE = new Due();
    private static final String[] FACE = {
        "int set(int,int,int)", "int car(int,int,int)", "int told(int,int)", "int feed(int)", "int text()",
        "int force(int)", "int times(int,int)", "int pump(int,int,int)", "int all(int)", "int lane(int,int)",
        "int lanes(int)", "int when(int,int)", "int forward()", "int blame(int)", "int tells(int,int)",
        "int film(int)", "int drawn(int)", "long chance(int,int,int)", "int image()", "int back()", "int count(int)",
        "int sheet(int,int,int)", "int cell(int,int,int)", "int copy(int,int,int,int,int)",
        "int cars(int,int,int,int)", "int taken(int,int)"};

    public static void main(String[] args) throws Exception {
        face();
        classesInside();
        source();
        DUE.end();
    }

    private static void face() {
        Class<?> c = OtherSidesPump.class;
        DUE.holds("public and final", Modifier.isPublic(c.getModifiers()) && Modifier.isFinal(c.getModifiers()));
        Set<String> methods = new TreeSet<>();
        for (Method m : c.getDeclaredMethods()) {
            if (Modifier.isPublic(m.getModifiers())) {
                DUE.holds(m.getName() + " is no static one", !Modifier.isStatic(m.getModifiers()));
                methods.add(signature(m));
            } else {
                DUE.holds(m.getName() + " is private", Modifier.isPrivate(m.getModifiers()) || m.isSynthetic());
            }
        }
        DUE.holds("the methods are " + methods, methods.equals(new TreeSet<>(List.of(FACE))));
        Constructor<?>[] made = c.getDeclaredConstructors();
        DUE.holds("one public constructor", made.length == 1 && Modifier.isPublic(made[0].getModifiers())
            && made[0].getParameterCount() == 0);
        Set<String> constants = new TreeSet<>();
        for (Field f : c.getDeclaredFields()) {
            if (Modifier.isPublic(f.getModifiers())) {
                constants.add(f.getType() + " " + f.getName());
            } else {
                DUE.holds(f.getName() + " is private", Modifier.isPrivate(f.getModifiers()) || f.isSynthetic());
            }
        }
        DUE.holds("the constants are " + constants,
            constants.equals(Set.of("int NONE", "int BAD", "int STATE", "int FULL", "long NO")));
        DUE.is(0, "NONE", OtherSidesPump.NONE, -1);
        DUE.is(0, "BAD", OtherSidesPump.BAD, -2);
        DUE.is(0, "STATE", OtherSidesPump.STATE, -3);
        DUE.is(0, "FULL", OtherSidesPump.FULL, -4);
        DUE.is(0, "NO", OtherSidesPump.NO, -4611686018427387904L);
    }

    private static String signature(Method m) {
        List<String> types = new ArrayList<>();
        for (Class<?> t : m.getParameterTypes()) {
            types.add(t.getName());
        }
        return m.getReturnType().getName() + " " + m.getName() + "(" + String.join(",", types) + ")";
    }

    private static void classesInside() {
        Set<String> names = new TreeSet<>();
        for (String f : FACE) {
            names.add(f.substring(f.indexOf(' ') + 1, f.indexOf('(')));
        }
        List<Class<?>> all = new ArrayList<>(List.of(OtherSidesPump.class));
        all.addAll(List.of(OtherSidesPump.class.getDeclaredClasses()));
        DUE.holds("some twelve classes", all.size() <= 12);
        for (Class<?> c : all) {
            if (c != OtherSidesPump.class) {
                DUE.holds(c + " is static", Modifier.isStatic(c.getModifiers()));
                DUE.holds(c + " is not seen", !Modifier.isPublic(c.getModifiers()) && !Modifier.isProtected(c.getModifiers()));
                for (Method m : c.getDeclaredMethods()) {
                    DUE.holds(c + " " + m.getName() + " has a name of its own", !names.contains(m.getName()));
                }
            }
            int fields = 0;
            for (Field f : c.getDeclaredFields()) {
                boolean isStatic = Modifier.isStatic(f.getModifiers());
                DUE.holds("static state " + f, !isStatic || Modifier.isFinal(f.getModifiers()));
                fields += isStatic ? 0 : 1;
            }
            DUE.holds(c + " has some twenty fields", fields <= 20);
            Set<String> hidden = new TreeSet<>();
            for (Method m : c.getDeclaredMethods()) {
                DUE.holds(m + " takes seven at most", m.getParameterCount() <= 7);
                if (Modifier.isPrivate(m.getModifiers())) {
                    hidden.add(m.getName());
                }
            }
            hidden.retainAll(names);
            DUE.holds(c + " has no private methods of public names: " + hidden, hidden.isEmpty());
        }
    }

    private static void source() throws Exception {
        String text = Files.readString(Path.of("src/main/java/OtherSidesPump.java"));
        String bare = text.replaceAll("(?s)/\\*.*?\\*/", "").replaceAll("//[^\n]*", "").replaceAll("\"[^\"\n]*\"", "\"\"");
        String[] words = {"throw", "throws", "try", "catch", "synchronized", "assert", "import", "package", "Object",
            "double", "float", "volatile", "native", "Thread", "Random"};
        for (String word : words) {
            DUE.holds("no " + word, !Pattern.compile("\\b" + word + "\\b").matcher(bare).find());
        }
        DUE.holds("no lambda, no method reference", !bare.contains("->") && !bare.contains("::"));
        DUE.holds("no Exact", !bare.contains("Exact"));
        Matcher library = Pattern.compile("\\b(System|Math|Integer|Long|Arrays)\\.(\\w+)").matcher(bare);
        while (library.find()) {
            DUE.holds(library.group(), List.of("System.arraycopy", "Math.max", "Math.min").contains(library.group()));
        }
        for (int i = 0; i < text.length(); i++) {
            DUE.holds("plain signs alone", text.charAt(i) < 128);
        }
        methodsAreShort(text);
    }

    /** A method goes from a line that ends in ") {" at a method's depth to the } of that depth. */
    private static void methodsAreShort(String text) {
        String[] lines = text.split("\n");
        for (int i = 0; i < lines.length; i++) {
            Matcher head = Pattern.compile("^( {4}| {8})(public|private|static|int|long|boolean|void|[A-Z]).*\\) \\{$").matcher(lines[i]);
            if (!head.matches()) {
                continue;
            }
            int end = i;
            while (end < lines.length && !lines[end].equals(head.group(1) + "}")) {
                end++;
            }
            DUE.holds("short: " + lines[i].trim(), end - i < 60);
        }
    }
}
