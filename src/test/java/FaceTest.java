import java.io.IOException;
import java.lang.reflect.Constructor;
import java.lang.reflect.Field;
import java.lang.reflect.Method;
import java.lang.reflect.Modifier;
import java.nio.file.Files;
import java.nio.file.Path;
import java.util.ArrayList;
import java.util.List;
import java.util.Set;
import java.util.TreeSet;
import java.util.regex.Matcher;
import java.util.regex.Pattern;

/** The face is the document's, in its order and with its exceptions, and the class keeps to LANGUAGE.md. */
public final class FaceTest {
    private static final Path CLASS = Path.of("src/main/java/BoxballHall.java");
    private static final Path DOCUMENT = Path.of("../shared/DOC.md");

    public static void main(String[] args) throws IOException {
        faceIsTheDocuments();
        headingsStandInTheirPlaces();
        nothingElseIsSeen();
        noPrivateNameIsPublic();
        sourceKeepsToTheLanguage();
        methodsAreShort();
        Check.end("FaceTest");
    }

    private static List<String> signatures(String text) {
        List<String> found = new ArrayList<>();
        Matcher matcher = Pattern.compile("(?m)^    public [\\w ]*\\([^)]*\\)(?:\\s+throws [\\w, ]+)?").matcher(text);
        while (matcher.find()) {
            found.add(matcher.group().replaceAll("\\s+", " ").trim());
        }
        return found;
    }

    private static void faceIsTheDocuments() throws IOException {
        String document = Files.readString(DOCUMENT);
        int begin = document.indexOf("```java");
        String face = document.substring(begin, document.indexOf("```", begin + 3));
        List<String> due = signatures(face);
        Check.due("calls of the face, a promise each", 42, due.size());
        Check.due("the face", String.join("\n", due), String.join("\n", signatures(Files.readString(CLASS))));
    }

    private static void headingsStandInTheirPlaces() throws IOException {
        String source = Files.readString(CLASS).replaceAll("\\s+", " ");
        Check.due("rows and steps", true, source.contains("// ---- rows and steps public int setRow("));
        Check.due("kept things", true, source.contains("// ---- kept things public int countPairs("));
        Check.due("exchanges", true, source.contains("// ---- exchanges and chosen waves public int exchange("));
        Check.due("laws", true, source.contains("// ---- laws, counting, queues public boolean obeys("));
    }

    private static void nothingElseIsSeen() {
        Check.due("public and final", Modifier.PUBLIC | Modifier.FINAL, BoxballHall.class.getModifiers());
        for (Field field : BoxballHall.class.getDeclaredFields()) {
            Check.due("private " + field.getName(), true, Modifier.isPrivate(field.getModifiers()));
            boolean isStatic = Modifier.isStatic(field.getModifiers());
            Check.due("final " + field.getName(), true, !isStatic || Modifier.isFinal(field.getModifiers()));
        }
        for (Constructor<?> constructor : BoxballHall.class.getDeclaredConstructors()) {
            Check.due("a public constructor", true, Modifier.isPublic(constructor.getModifiers()));
        }
        for (Method method : BoxballHall.class.getDeclaredMethods()) {
            int open = Modifier.PUBLIC | Modifier.PRIVATE;
            Check.due("public or private " + method.getName(), true, (method.getModifiers() & open) != 0);
        }
        Class<?>[] inside = BoxballHall.class.getDeclaredClasses();
        Check.due("some twelve classes at most", true, inside.length <= 12);
        for (Class<?> one : inside) {
            Check.due("static " + one.getSimpleName(), true, Modifier.isStatic(one.getModifiers()));
            Check.due("not public " + one.getSimpleName(), false, Modifier.isPublic(one.getModifiers()));
        }
    }

    private static void noPrivateNameIsPublic() {
        Set<String> open = new TreeSet<>();
        List<Method> methods = new ArrayList<>(List.of(BoxballHall.class.getDeclaredMethods()));
        for (Method method : methods) {
            if (Modifier.isPublic(method.getModifiers())) {
                open.add(method.getName());
            }
        }
        for (Class<?> one : BoxballHall.class.getDeclaredClasses()) {
            methods.addAll(List.of(one.getDeclaredMethods()));
        }
        for (Method method : methods) {
            if (Modifier.isPrivate(method.getModifiers())) {
                Check.due("the name " + method.getName(), false, open.contains(method.getName()));
            }
        }
    }

    private static void sourceKeepsToTheLanguage() throws IOException {
        String source = Files.readString(CLASS);
        String[] ruledOut = {"\\bpackage\\b", "\\bfinally\\b", "\\bsynchronized\\b", "\\bassert\\b", "\\) ->", "\\w+ = \\w+ ->", "::",
            "\\bInteger\\.valueOf", "Exact\\(", "\\bFloat\\.", "\\bDouble\\.", "\\bSystem\\.(?!arraycopy)", "\\bprotected\\b",
            "static \\{", "\\bObject\\b", "\\bThread\\b", "catch \\((Runtime)?Exception\\b", "catch \\((Throwable|Error)\\b",
            "catch \\((ArrayIndex|ArrayStore|NullPointer|NegativeArray|ClassCast)"};
        for (String words : ruledOut) {
            Check.due("ruled out: " + words, false, Pattern.compile(words).matcher(source).find());
        }
        Set<String> library = Set.of("Arrays", "ArrayList", "List", "Iterator", "NoSuchElementException");
        Matcher matcher = Pattern.compile("import ([\\w.*]+);").matcher(source);
        while (matcher.find()) {
            Check.due("import of " + matcher.group(1), true, library.contains(matcher.group(1).replace("java.util.", "")));
        }
        Check.due("signs of ASCII alone", true, source.chars().allMatch(sign -> sign < 128));
    }

    /** Counts from a line that begins a method to the line that ends it, by how far both are set in. */
    private static void methodsAreShort() throws IOException {
        List<String> lines = Files.readAllLines(CLASS);
        int longest = 0;
        for (int begin = 0; begin < lines.size(); begin++) {
            String line = lines.get(begin);
            if (line.matches(" +(public|private).*\\(.*") && !line.trim().endsWith(";")) {
                String end = line.substring(0, line.indexOf('p')) + "}";
                int length = lines.subList(begin, lines.size()).indexOf(end) + 1;
                longest = Math.max(longest, length);
            }
        }
        Check.due("some sixty lines at most", true, longest > 0 && longest <= 60);
    }
}
