import java.lang.reflect.Constructor;
import java.lang.reflect.Field;
import java.lang.reflect.Method;
import java.lang.reflect.Modifier;
import java.nio.charset.StandardCharsets;
import java.nio.file.Files;
import java.nio.file.Path;
import java.util.Arrays;
import java.util.Set;
import java.util.TreeSet;
import java.util.regex.Matcher;
import java.util.regex.Pattern;

/** The document's face, and the rules of LANGUAGE.md that can be read off the class and its text. */
public final class FaceTest {
    private static final String[] FACE = {
        "int letter(int,int)", "int find(int)", "int outline(int)", "int point(int,int,int,int)",
        "int close(int)", "int drop(int)", "boolean move(int,int,int,int)", "boolean reverse(int,int)",
        "int part(int,int,int,int)", "boolean matrix(int,int,int,int,int,int)", "int info(int,int)",
        "int at(int,int,int)", "int flatten(int,int)", "int flat(int,int)", "long area()",
        "int winding(int,int)", "int crossings()", "int image(int,int,int,int)", "int dot(int,int)",
        "int box(int)", "int act(int,int,int)", "int wipe(int)", "int run(int,int)",
        "int fitted(int,int)", "boolean delta(int,int,int,int,int)", "boolean weight(int,int)",
        "int mixed(int,int,int)", "boolean classOf(int,int,int)", "boolean kern(int,int,int)",
        "boolean exception(int,int,int)", "int kerning(int,int)", "int join(int,int,int,int)",
        "int sign(int)", "int set()", "int placed(int,int)", "int length()"
    };

    public static void main(String[] args) throws Exception {
        face();
        for (Class<?> inner : LetterFoundry.class.getDeclaredClasses()) {
            Check.due(inner + " is static", Modifier.isStatic(inner.getModifiers()), true);
            sizes(inner);
        }
        sizes(LetterFoundry.class);
        Check.due("classes", LetterFoundry.class.getDeclaredClasses().length < 12, true);
        String program = args.length > 0 ? args[0] : "src/main/java/LetterFoundry.java";
        text(program);
        document(program);
        Check.end();
    }

    // The document's own text of the face: each line of it, with the names of the parameters.
    private static void document(String program) throws Exception {
        String code = Files.readString(Path.of(program), StandardCharsets.ISO_8859_1);
        int lines = 0;
        for (String line : Files.readAllLines(Path.of("../shared/DOC.md"))) {
            if (line.startsWith("    public ")) {
                String there = line.contains(" = ") ? line : line.replace(";", " {");
                Check.due("the class has " + line, code.contains(there + "\n"), true);
                lines++;
            }
        }
        Check.due("lines of the face", lines, FACE.length + 2);
    }

    private static void face() {
        Set<String> due = new TreeSet<>(Arrays.asList(FACE));
        Set<String> there = new TreeSet<>();
        Set<String> names = new TreeSet<>();
        for (Method m : LetterFoundry.class.getDeclaredMethods()) {
            if (Modifier.isPublic(m.getModifiers())) {
                String types = Arrays.toString(m.getParameterTypes()).replaceAll("[\\[\\] ]", "");
                there.add(m.getReturnType() + " " + m.getName() + "(" + types + ")");
                names.add(m.getName());
            }
        }
        if (!due.equals(there)) {
            System.out.println("due " + due + "\nthere " + there);
        }
        Check.due("the face", due.equals(there), true);
        for (Method m : LetterFoundry.class.getDeclaredMethods()) {
            if (!Modifier.isPublic(m.getModifiers())) {
                Check.due(m + " is private", Modifier.isPrivate(m.getModifiers()), true);
                Check.due(m + " has a name of its own", names.contains(m.getName()), false);
            }
        }
        for (Field f : LetterFoundry.class.getDeclaredFields()) {
            boolean isConstant = f.getName().equals("NONE");
            Check.due(f + " is private", Modifier.isPrivate(f.getModifiers()), !isConstant);
        }
        Constructor<?>[] made = LetterFoundry.class.getDeclaredConstructors();
        Check.due("constructors", made.length, 1);
        Check.due("public", Modifier.isPublic(made[0].getModifiers()), true);
        Check.due("final", Modifier.isFinal(LetterFoundry.class.getModifiers()), true);
    }

    private static void sizes(Class<?> c) {
        int fields = 0;
        for (Field f : c.getDeclaredFields()) {
            boolean isStatic = Modifier.isStatic(f.getModifiers());
            fields += isStatic ? 0 : 1;
            Check.due(f + " is final if static", !isStatic || Modifier.isFinal(f.getModifiers()), true);
        }
        Check.due(c + " has some twenty fields at most", fields <= 20, true);
        for (Method m : c.getDeclaredMethods()) {
            Check.due(m + " has seven parameters at most", m.getParameterCount() <= 7, true);
        }
    }

    private static void text(String path) throws Exception {
        String whole = Files.readString(Path.of(path), StandardCharsets.ISO_8859_1);
        String code = whole.replaceAll("(?s)/\\*.*?\\*/", "").replaceAll("//[^\n]*", "");
        String[] ruledOut = {
            "throw", "throws", "try", "catch", "synchronized", "assert", "package", "->", "::", "Exact",
            "protected", "volatile", "native", "Thread", "System\\.(?!arraycopy)", "Random", "Object\\b"
        };
        for (String word : ruledOut) {
            Matcher m = Pattern.compile(word.matches("\\w+") ? "\\b" + word + "\\b" : word).matcher(code);
            Check.due("the text has " + word, m.find(), false);
        }
        Matcher imports = Pattern.compile("import ([^;]+);").matcher(code);
        while (imports.find()) {
            Check.due("imports " + imports.group(1), imports.group(1).equals("java.util.Arrays"), true);
        }
    }
}
