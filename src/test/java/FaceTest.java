import java.io.IOException;
import java.lang.reflect.Constructor;
import java.lang.reflect.Field;
import java.lang.reflect.Method;
import java.lang.reflect.Modifier;
import java.nio.file.Files;
import java.nio.file.Path;
import java.util.Set;
import java.util.TreeSet;
import java.util.regex.Pattern;

/** The document's face and no more, and what LANGUAGE.md rules out by sight. Runs at the project's root. */
public final class FaceTest {
    private static final String METHODS = "box cancel carrier count empty leg load mark minutes of plan share station"
            + " stop train where";

    private static final String[] RULED_OUT = {
        "->", "::", "\\btry\\b", "\\bcatch\\b", "\\bfinally\\b", "\\bsynchronized\\b", "\\bassert\\b", "Exact\\(",
        "\\bSystem\\.(?!arraycopy)", "\\bstatic\\s*\\{", "\\bObject\\b", "\\bRandom\\b", "\\bThread\\b",
        "\\bpackage\\b", "\\bhashCode\\b", "\\btoString\\b", "\\bvar\\b", "\\bdouble\\b", "\\bfloat\\b"};

    public static void main(String[] args) throws IOException {
        theClassHasTheFaceAndNoMore();
        theFaceIsAsTheDocumentWritesIt();
        noOtherMethodHasAPublicName();
        theSourceKeepsToTheLanguage();
        Check.end();
    }

    private static void theClassHasTheFaceAndNoMore() {
        Class<?> face = LunchMarks.class;
        Check.due("face: public and final", "public final", () -> Modifier.toString(face.getModifiers()));
        for (Constructor<?> made : face.getDeclaredConstructors()) {
            Check.due("face: constructor", "public LunchMarks()", made::toString);
        }
        Set<String> open = new TreeSet<>();
        for (Method method : face.getDeclaredMethods()) {
            if (!Modifier.isPrivate(method.getModifiers())) {
                open.add(method.getName());
                Check.due("face: " + method.getName(), "public", () -> Modifier.toString(method.getModifiers()));
            }
        }
        Check.due("face: methods", METHODS, () -> String.join(" ", open));
        for (Field field : face.getDeclaredFields()) {
            boolean isNone = field.getName().equals("NONE");
            Check.due("face: field " + field.getName(), isNone ? "public static final" : "private",
                    () -> isNone ? Modifier.toString(field.getModifiers())
                            : Modifier.toString(field.getModifiers() & Modifier.PRIVATE));
            if (!isNone) {
                Check.due("face: static state " + field.getName(), false,
                        () -> Modifier.isStatic(field.getModifiers()) && !Modifier.isFinal(field.getModifiers()));
            }
        }
        Check.due("face: NONE", -1, () -> LunchMarks.NONE);
    }

    /** Types and exceptions, too; of the parameters' names a compiled class knows nothing. */
    private static void theFaceIsAsTheDocumentWritesIt() throws IOException {
        Set<String> written = new TreeSet<>();
        for (String line : Files.readAllLines(Path.of("../shared/DOC.md"))) {
            if (line.startsWith("    public ") && line.endsWith(";") && line.contains("(")) {
                written.add(line.strip().replace(";", "").replaceAll("int \\w+(?=[,)])", "int").replace(", ", ","));
            }
        }
        Set<String> compiled = new TreeSet<>();
        for (Constructor<?> made : LunchMarks.class.getConstructors()) {
            compiled.add(bare(made.toString()));
        }
        for (Method method : LunchMarks.class.getDeclaredMethods()) {
            if (Modifier.isPublic(method.getModifiers())) {
                compiled.add(bare(method.toString()));
            }
        }
        Check.due("face: as many as are written", 17, written::size);
        Check.due("face: as it is written", String.join("; ", written), () -> String.join("; ", compiled));
    }

    private static String bare(String signature) {
        return signature.replaceAll("java\\.\\w+\\.", "").replace("LunchMarks.", "");
    }

    private static void noOtherMethodHasAPublicName() {
        Set<String> names = Set.of(METHODS.split(" "));
        for (Class<?> inside : LunchMarks.class.getDeclaredClasses()) {
            Check.due("inside: " + inside.getName() + " is static", true,
                    () -> Modifier.isStatic(inside.getModifiers()));
            for (Method method : inside.getDeclaredMethods()) {
                Check.due("inside: " + method, false, () -> names.contains(method.getName()));
            }
        }
        for (Method method : LunchMarks.class.getDeclaredMethods()) {
            boolean hidden = Modifier.isPrivate(method.getModifiers());
            Check.due("private: " + method, false, () -> hidden && names.contains(method.getName()));
        }
    }

    private static void theSourceKeepsToTheLanguage() throws IOException {
        String text = Files.readString(Path.of("src/main/java/LunchMarks.java"));
        String code = text.replaceAll("/\\*(?s:.*?)\\*/", "").replaceAll("//[^\n]*", "").replaceAll("\"[^\"]*\"", "\"\"");
        for (String wrong : RULED_OUT) {
            Check.due("source: " + wrong, false, () -> Pattern.compile(wrong).matcher(code).find());
        }
        for (String line : code.split("\n")) {
            if (line.startsWith("import ")) {
                Check.due("source: " + line, true, () -> line.matches(
                        "import java\\.util\\.(ArrayList|Arrays|List|Iterator|NoSuchElementException);"));
            }
        }
        Check.due("source: signs", true, () -> text.chars().allMatch(c -> c < 127));
    }
}
