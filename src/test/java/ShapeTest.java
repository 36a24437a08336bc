import java.io.IOException;
import java.lang.reflect.Constructor;
import java.lang.reflect.Field;
import java.lang.reflect.Member;
import java.lang.reflect.Method;
import java.lang.reflect.Modifier;
import java.nio.charset.StandardCharsets;
import java.nio.file.Files;
import java.nio.file.Path;
import java.util.ArrayList;
import java.util.List;
import java.util.Set;
import java.util.TreeSet;
import java.util.regex.Matcher;
import java.util.regex.Pattern;

/** The face is the document's and no more; the source keeps to what a search can see of LANGUAGE.md. */
public final class ShapeTest {
    private static final Path SOURCE = Path.of("src/main/java/GreenHorseUpstairs.java");
    private static final Path DOCUMENT = Path.of("../shared/DOC.md");
    private static final int LONGEST_METHOD = 60;

    public static void main(String[] args) throws IOException {
        face();
        classesInside();
        language();
        Due.finish();
    }

    private static String shape(Member member, Class<?> type, Class<?>[] parameters) {
        StringBuilder shape = new StringBuilder();
        shape.append(type == null ? "" : type.getSimpleName() + " ");
        shape.append(type == null ? "GreenHorseUpstairs" : member.getName());
        for (Class<?> parameter : parameters) {
            shape.append(' ').append(parameter.getSimpleName());
        }
        return shape.toString();
    }

    private static Set<String> documentFace() throws IOException {
        String document = Files.readString(DOCUMENT, StandardCharsets.UTF_8);
        int begin = document.indexOf("```java");
        String block = document.substring(begin, document.indexOf("```", begin + 7));
        Set<String> face = new TreeSet<>();
        Matcher m = Pattern.compile("public ((?:int )?\\w+)\\(([^)]*)\\);").matcher(block);
        while (m.find()) {
            StringBuilder shape = new StringBuilder(m.group(1));
            for (String parameter : m.group(2).split(",")) {
                shape.append(parameter.isBlank() ? "" : " " + parameter.trim().split(" ")[0]);
            }
            face.add(shape.toString());
        }
        return face;
    }

    private static void face() throws IOException {
        Class<?> type = GreenHorseUpstairs.class;
        Due.isTrue("public", Modifier.isPublic(type.getModifiers()));
        Due.isTrue("final", Modifier.isFinal(type.getModifiers()));
        Set<String> face = new TreeSet<>();
        Set<String> publicNames = new TreeSet<>();
        List<Method> hidden = new ArrayList<>();
        for (Constructor<?> made : type.getDeclaredConstructors()) {
            face.add(shape(made, null, made.getParameterTypes()));
        }
        for (Method method : type.getDeclaredMethods()) {
            if (Modifier.isPrivate(method.getModifiers())) {
                hidden.add(method);
            } else {
                face.add(shape(method, method.getReturnType(), method.getParameterTypes()));
                publicNames.add(method.getName());
            }
        }
        Set<String> due = documentFace();
        Due.due("constructor and methods in the document", due.size(), 35);
        Due.isTrue("the face " + face + " is " + due, face.equals(due));
        for (Field field : type.getDeclaredFields()) {
            Due.isTrue(field + " is private", Modifier.isPrivate(field.getModifiers()));
        }
        for (Class<?> inside : type.getDeclaredClasses()) {
            hidden.addAll(List.of(inside.getDeclaredMethods()));
        }
        for (Method method : hidden) {
            Due.isTrue(method + " bears no public name", !publicNames.contains(method.getName()));
            Due.isTrue(method + " takes seven at most", method.getParameterCount() <= 7);
        }
    }

    private static void classesInside() {
        Class<?>[] inside = GreenHorseUpstairs.class.getDeclaredClasses();
        Due.isTrue("twelve classes at most", inside.length <= 12);
        List<Class<?>> all = new ArrayList<>(List.of(inside));
        all.add(GreenHorseUpstairs.class);
        for (Class<?> type : all) {
            int own = 0;
            for (Field field : type.getDeclaredFields()) {
                boolean isStatic = Modifier.isStatic(field.getModifiers());
                own += isStatic ? 0 : 1;
                Due.isTrue(field + " is constant", !isStatic || Modifier.isFinal(field.getModifiers()));
            }
            Due.isTrue(type + " has twenty fields at most", own <= 20);
            Due.isTrue(type + " is static", type == GreenHorseUpstairs.class || Modifier.isStatic(type.getModifiers()));
        }
    }

    private static void language() throws IOException {
        String source = Files.readString(SOURCE, StandardCharsets.UTF_8);
        String bare = source.replaceAll("(?s)/\\*.*?\\*/", "").replaceAll("//[^\n]*", "");
        String[] never = {"\\bthrow\\b", "\\btry\\b", "\\bcatch\\b", "\\bsynchronized\\b", "\\bassert\\b", "->", "::",
            "\\bdouble\\b", "\\bfloat\\b", "Exact\\(", "\\bSystem\\.(?!arraycopy)", "\\bRandom\\b", "\\bThread\\b",
            "\\bprotected\\b", "\\bpackage\\b", "\\bhashCode\\b", "\\btoString\\b", "\\bvar\\b", "\\[\\]\\[\\]\\["};
        for (String pattern : never) {
            Due.isTrue("no " + pattern, !Pattern.compile(pattern).matcher(bare).find());
        }
        Matcher imports = Pattern.compile("import ([^;]*);").matcher(bare);
        while (imports.find()) {
            Due.isTrue(imports.group(1), imports.group(1).equals("java.util.Arrays"));
        }
        for (int i = 0; i < source.length(); i++) {
            if (source.charAt(i) > 127) {
                Due.isTrue("sign " + i + " is below 128", false);
            }
        }
        methodsAreShort(bare);
    }

    private static void methodsAreShort(String source) {
        int begun = 0;
        String[] lines = source.split("\n");
        for (int i = 0; i < lines.length; i++) {
            if (lines[i].matches(" {4}(?: {4})?\\w[^;=]*\\) \\{")) {
                begun = i;
            }
            if (lines[i].matches(" {4}(?: {4})?\\}")) {
                Due.isTrue("line " + begun + ": a short method", i - begun <= LONGEST_METHOD || begun == 0);
            }
        }
    }
}
