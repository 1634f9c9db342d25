import java.io.IOException;
import java.lang.reflect.Constructor;
import java.lang.reflect.Field;
import java.lang.reflect.Method;
import java.lang.reflect.Modifier;
import java.nio.file.Files;
import java.nio.file.Path;
import java.util.ArrayList;
import java.util.Arrays;
import java.util.Collections;
import java.util.List;
import java.util.regex.Matcher;
import java.util.regex.Pattern;

/** The face is that of the document, and the source keeps to the rules of LANGUAGE.md that a text shows. */
public final class FaceTest {
    private static final Path DOCUMENT = Path.of("../shared/DOC.md");
    private static final Path SOURCE = Path.of("src/main/java/ParcelRailway.java");

    private static List<String> documentFace() throws IOException {
        List<String> face = new ArrayList<>();
        Pattern method = Pattern.compile(
                "    public (int|boolean|double|float) (\\w+)\\((.*?)\\)(?: throws (.*))?;");
        for (String line : Files.readAllLines(DOCUMENT)) {
            Matcher m = method.matcher(line);
            if (m.matches()) {
                List<String> types = new ArrayList<>();
                for (String argument : m.group(3).isEmpty() ? new String[0] : m.group(3).split(", ")) {
                    types.add(argument.split(" ")[0]);
                }
                String thrown = m.group(4) == null ? "" : m.group(4);
                face.add(m.group(1) + " " + m.group(2) + types + " " + thrown);
            }
        }
        Collections.sort(face);
        return face;
    }

    private static List<String> classFace() {
        List<String> face = new ArrayList<>();
        for (Method m : ParcelRailway.class.getDeclaredMethods()) {
            if (Modifier.isPrivate(m.getModifiers()) || m.isSynthetic()) {
                continue;
            }
            List<String> types = new ArrayList<>();
            for (Class<?> type : m.getParameterTypes()) {
                types.add(type.getSimpleName());
            }
            List<String> thrown = new ArrayList<>();
            for (Class<?> type : m.getExceptionTypes()) {
                thrown.add(type.getSimpleName());
            }
            face.add(m.getReturnType().getSimpleName() + " " + m.getName() + types + " " + String.join(", ", thrown));
        }
        Collections.sort(face);
        return face;
    }

    private static String modifiers(int modifiers) {
        return Modifier.toString(modifiers);
    }

    private static void members() {
        Check.same("the class", "public final", modifiers(ParcelRailway.class.getModifiers()));
        for (Constructor<?> c : ParcelRailway.class.getDeclaredConstructors()) {
            Check.same("a constructor", "public 0", modifiers(c.getModifiers()) + " " + c.getParameterCount());
        }
        for (Field f : ParcelRailway.class.getDeclaredFields()) {
            boolean constant = f.getName().equals("NONE");
            Check.same("field " + f.getName(), constant ? "public" : "private",
                    modifiers(f.getModifiers()).split(" ")[0]);
            Check.holds(0, "final " + f.getName(), true, () -> Modifier.isFinal(f.getModifiers()));
        }
        for (Class<?> inner : ParcelRailway.class.getDeclaredClasses()) {
            Check.holds(0, "not public: " + inner, false, () -> Modifier.isPublic(inner.getModifiers()));
            Check.holds(0, "static: " + inner, true, () -> Modifier.isStatic(inner.getModifiers()));
            Check.holds(0, "few fields: " + inner, true, () -> Arrays.stream(inner.getDeclaredFields())
                    .filter(f -> !Modifier.isStatic(f.getModifiers())).count() <= 20);
        }
        Check.is(0, "NONE", -1, () -> ParcelRailway.NONE);
    }

    private static void privateNames() {
        List<String> face = new ArrayList<>();
        for (String line : classFace()) {
            face.add(line.replaceAll("^\\w+ (\\w+).*", "$1"));
        }
        List<Class<?>> classes = new ArrayList<>(List.of(ParcelRailway.class.getDeclaredClasses()));
        classes.add(ParcelRailway.class);
        for (Class<?> c : classes) {
            for (Method m : c.getDeclaredMethods()) {
                boolean own = c == ParcelRailway.class && Modifier.isPublic(m.getModifiers());
                Check.holds(0, m + " bears a name of the face", false, () -> !own && face.contains(m.getName()));
            }
        }
    }

    private static void source() throws IOException {
        String text = Files.readString(SOURCE);
        String code = text.replaceAll("//.*|/\\*(?s:.*?)\\*/", "").replaceAll("\"[^\"]*\"", "\"\"");
        for (String word : List.of("->", "::", "\\bcatch\\b", "\\btry\\b", "\\bfinally\\b", "\\bsynchronized\\b",
                "\\bassert\\b", "\\bvar\\b", "\\bpackage\\b", "\\bSystem\\b", "\\bThread\\b", "\\bObject\\b",
                "\\bhashCode\\b", "\\btoString\\b", "\"\" *\\+", "\\+ *\"\"", "\\bprotected\\b", "@\\w", "\\blong\\b.*[/%]")) {
            Check.holds(0, "the source holds " + word, false, () -> Pattern.compile(word).matcher(code).find());
        }
        Matcher imports = Pattern.compile("import (.*);").matcher(code);
        while (imports.find()) {
            Check.same("an import", "java.util.NoSuchElementException", imports.group(1));
        }
        Check.holds(0, "the source is ASCII", true, () -> text.chars().allMatch(c -> c < 128));
    }

    public static void main(String[] args) throws IOException {
        Check.same("the face", String.join("\n", documentFace()), String.join("\n", classFace()));
        Check.is(0, "methods of the face", 64, () -> classFace().size());
        members();
        privateNames();
        source();
        Check.finish("FaceTest");
    }
}
