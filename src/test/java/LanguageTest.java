import java.io.IOException;
import java.lang.reflect.Constructor;
import java.lang.reflect.Field;
import java.lang.reflect.Method;
import java.lang.reflect.Modifier;
import java.nio.file.Files;
import java.nio.file.Path;
import java.util.Set;
import java.util.TreeSet;
import java.util.regex.Matcher;
import java.util.regex.Pattern;

/** What LANGUAGE.md asks of the file and of the face, as far as a test can see it. */
public final class LanguageTest {
    private static final Due DUE = new Due("LanguageTest");
    private static final Path SOURCE = Path.of("src", "main", "java", "SawLine.java");

    private static final String[] FACE = {
        "int saw(int,int,int,int)", "int ofTooth(int,int)", "int set(int,int,int)", "int ofSaw(int)",
        "int board(int,int,int,int)", "int ofLine(int,int)", "int hand(int,int,int)", "int ofHand(int)",
        "int fence(int)", "long where(int)", "long heading(int)", "int off()", "int pinched()",
        "int marks(int)", "int which(int,int)", "int straightest(int)", "int flaw(int,int,int)",
        "int ofFlaw(int,int)", "int reading(int,int)", "int back(int)", "int likely(int)",
        "int each(int)", "int act(int,int)", "int mend(int,int)", "int log(int,int,int,int,int)",
        "int sheet(int,int,int)", "int lose(int)", "int put(int,int,int)", "long cell(int,int,int)",
        "int copy(int,int,int,int,int)", "int tell(int)", "int joint(int)", "int as(int,int)",
        "int trace()", "int fault()", "int many(int)"};

    /** What the class uses of the library, all of it listed by rule 4; MIN_VALUE is the face's LOST. */
    private static final Set<String> LIBRARY = Set.of("Math.abs", "Math.max", "Math.min", "Integer.bitCount",
        "System.arraycopy", "Long.MIN_VALUE");

    private LanguageTest() {
    }

    public static void main(String[] args) throws IOException {
        face();
        ownNames();
        source(Files.readString(SOURCE));
        DUE.end();
    }

    private static void face() {
        Class<?> c = SawLine.class;
        DUE.holds("public and final", Modifier.isPublic(c.getModifiers()) && Modifier.isFinal(c.getModifiers()));
        Set<String> methods = new TreeSet<>();
        for (Method m : c.getDeclaredMethods()) {
            if (Modifier.isPublic(m.getModifiers())) {
                methods.add(line(m));
            } else {
                DUE.holds(m.getName() + " is private", Modifier.isPrivate(m.getModifiers()));
            }
        }
        DUE.holds("the methods of the face " + methods, methods.equals(new TreeSet<>(Set.of(FACE))));
        Set<String> fields = new TreeSet<>();
        for (Field f : c.getDeclaredFields()) {
            if (!Modifier.isPrivate(f.getModifiers())) {
                fields.add(f.getName());
            }
            if (Modifier.isStatic(f.getModifiers())) {
                DUE.holds(f.getName() + " is final", Modifier.isFinal(f.getModifiers()));
            }
        }
        DUE.holds("the constants " + fields,
                fields.equals(new TreeSet<>(Set.of("UNKNOWN", "OUTSIDE", "STATE", "FULL", "NONE", "LOST"))));
        Constructor<?>[] makers = c.getDeclaredConstructors();
        DUE.holds("one public constructor", makers.length == 1 && Modifier.isPublic(makers[0].getModifiers()));
    }

    private static String line(Method m) {
        StringBuilder b = new StringBuilder();
        b.append(m.getReturnType().getName()).append(' ').append(m.getName()).append('(');
        for (Class<?> p : m.getParameterTypes()) {
            b.append(b.charAt(b.length() - 1) == '(' ? "" : ",").append(p.getName());
        }
        return b.append(')').toString();
    }

    private static void ownNames() {
        Set<String> taken = new TreeSet<>();
        for (String f : FACE) {
            taken.add(f.substring(f.indexOf(' ') + 1, f.indexOf('(')));
        }
        for (Method m : SawLine.class.getDeclaredMethods()) {
            DUE.holds(m.getName() + " is no name of the face",
                    Modifier.isPublic(m.getModifiers()) || !taken.contains(m.getName()));
        }
        Class<?>[] inside = SawLine.class.getDeclaredClasses();
        DUE.holds("at most twelve classes", inside.length < 12);
        for (Class<?> c : inside) {
            DUE.holds(c.getName() + " is static", Modifier.isStatic(c.getModifiers()));
            int fields = 0;
            for (Field f : c.getDeclaredFields()) {
                fields += Modifier.isStatic(f.getModifiers()) ? 0 : 1;
            }
            DUE.holds(c.getName() + " has at most twenty fields", fields <= 20);
            for (Method m : c.getDeclaredMethods()) {
                DUE.holds(m.getName() + " is no name of the face", !taken.contains(m.getName()));
                DUE.holds(m.getName() + " takes at most seven", m.getParameterCount() <= 7);
            }
        }
    }

    private static void source(String text) {
        String code = text.replaceAll("(?s)/\\*.*?\\*/", "").replaceAll("//[^\n]*", "");
        String[] words = {"throw", "throws", "try", "catch", "finally", "synchronized", "assert", "import",
            "package", "native", "volatile", "Exact", "equals", "hashCode", "toString", "Object", "goto", "var"};
        for (String word : words) {
            DUE.holds("no " + word, !Pattern.compile("\\b\\w*" + word + "\\b").matcher(code).find());
        }
        DUE.holds("no lambda", !code.contains("->"));
        DUE.holds("no method reference", !code.contains("::"));
        DUE.holds("no text is joined", !code.contains("\""));
        for (char c : text.toCharArray()) {
            if (c > 126) {
                DUE.holds("signs up to 126, not " + (int) c, false);
            }
        }
        // Objects and rows are made with the object alone: whatever calls come, the room stays small.
        Matcher made = Pattern.compile("(?m)^(.*)\\bnew\\b.*$").matcher(code);
        while (made.find()) {
            DUE.holds("made with the object: " + made.group().trim(), made.group(1).contains("private final"));
        }
        library(code);
        shortMethods(code);
    }

    private static void library(String code) {
        Matcher used = Pattern.compile("\\b[A-Z]\\w*[a-z]\\w*\\.\\w+").matcher(code);
        while (used.find()) {
            boolean own = code.contains(" class " + used.group().substring(0, used.group().indexOf('.')) + " {");
            DUE.holds("listed by rule 4: " + used.group(), own || LIBRARY.contains(used.group()));
        }
    }

    private static void shortMethods(String code) {
        int since = 0;
        String name = "";
        for (String line : code.split("\n")) {
            since++;
            if (line.matches("\\s+(public|private|static|int|long|void|boolean).*\\) \\{")) {
                name = line.trim();
                since = 0;
            }
            DUE.holds("short: " + name, name.isEmpty() || since <= 60);
        }
    }
}
