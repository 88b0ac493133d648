import java.lang.reflect.Constructor;
import java.lang.reflect.Field;
import java.lang.reflect.Method;
import java.lang.reflect.Modifier;
import java.nio.file.Files;
import java.nio.file.Path;
import java.util.Arrays;
import java.util.Set;
import java.util.TreeSet;
import java.util.regex.Matcher;
import java.util.regex.Pattern;
import java.util.stream.Collectors;

/**
 * The public face as the document writes it, and those rules of LANGUAGE.md that can be seen without reading on.
 * Runs in the project's folder.
 */
public final class FaceTest {
    private static final Path DOCUMENT = Path.of("../shared/DOC.md");
    private static final Path SOURCE = Path.of("src/main/java/MirrorJury.java");
    private static int wrong = 0;

    private static void need(boolean holds, String what) {
        if (!holds) {
            wrong++;
            System.out.println("FaceTest: " + what);
        }
    }

    public static void main(String[] args) throws Exception {
        String document = Files.readString(DOCUMENT);
        String face = document.substring(document.indexOf("```java"));
        face = face.substring(0, face.indexOf("\n}"));
        compareFace(face);
        checkMembers();
        checkSource(Files.readString(SOURCE));
        System.out.println(wrong == 0 ? "FaceTest: the face is as due" : "FaceTest: " + wrong + " wrong");
        if (wrong != 0) {
            System.exit(1);
        }
    }

    private static void compareFace(String face) {
        Set<String> due = new TreeSet<>();
        Matcher m = Pattern.compile("(?m)^    (public [^;{]+);").matcher(face);
        while (m.find()) {
            due.add(m.group(1));
        }
        need(due.size() == 61, "the document has another number of members: " + due.size());
        Set<String> got = new TreeSet<>();
        for (Method method : MirrorJury.class.getMethods()) {
            if (method.getDeclaringClass() == MirrorJury.class) {
                got.add(text(method));
            }
        }
        for (Constructor<?> constructor : MirrorJury.class.getConstructors()) {
            got.add("public MirrorJury(" + (constructor.getParameterCount() == 0 ? ")" : "?"));
        }
        for (Field field : MirrorJury.class.getFields()) {
            got.add(text(field));
        }
        Set<String> plainDue = due.stream().map(FaceTest::withoutNames).collect(Collectors.toCollection(TreeSet::new));
        for (String member : plainDue) {
            need(got.contains(member), "missing: " + member);
        }
        for (String member : got) {
            need(plainDue.contains(member), "not in the document: " + member);
        }
    }

    /** Takes the names of parameters away. */
    private static String withoutNames(String member) {
        return member.replaceAll("(int|char) \\w+([,)])", "$1$2");
    }

    private static String text(Method method) {
        String thrown = Arrays.stream(method.getExceptionTypes()).map(Class::getSimpleName)
                .collect(Collectors.joining(", "));
        return "public " + method.getReturnType() + " " + method.getName() + "("
                + Arrays.stream(method.getParameterTypes()).map(Class::getSimpleName).collect(Collectors.joining(", "))
                + ")" + (thrown.isEmpty() ? "" : " throws " + thrown);
    }

    private static String text(Field field) {
        try {
            return Modifier.toString(field.getModifiers()) + " " + field.getType() + " " + field.getName() + " = "
                    + field.get(null);
        } catch (IllegalAccessException e) {
            return e.toString();
        }
    }

    private static void checkMembers() {
        Class<?> c = MirrorJury.class;
        need(Modifier.isFinal(c.getModifiers()) && Modifier.isPublic(c.getModifiers()), "not public and final");
        Set<String> faceNames = new TreeSet<>();
        for (Method method : c.getDeclaredMethods()) {
            need(isFaceOrPrivate(method.getModifiers()), "neither face nor private: " + method);
            if (Modifier.isPublic(method.getModifiers())) {
                faceNames.add(method.getName());
            }
        }
        for (Field field : c.getDeclaredFields()) {
            need(isFaceOrPrivate(field.getModifiers()), "neither face nor private: " + field);
        }
        for (Class<?> part : parts()) {
            need(part == c || (part.getModifiers() & (Modifier.PUBLIC | Modifier.PROTECTED)) == 0,
                    "a class inside that is neither private nor package-visible: " + part);
            checkPart(part, faceNames);
        }
        need(parts().length <= 14, "more than some twelve classes");
    }

    private static void checkPart(Class<?> part, Set<String> faceNames) {
        int fields = 0;
        for (Field field : part.getDeclaredFields()) {
            boolean isStatic = Modifier.isStatic(field.getModifiers());
            fields += isStatic ? 0 : 1;
            need(!isStatic || Modifier.isFinal(field.getModifiers()), "not final: " + field);
        }
        need(fields <= 24, "more than some twenty fields: " + part);
        for (Method method : part.getDeclaredMethods()) {
            need(!Modifier.isPrivate(method.getModifiers()) || !faceNames.contains(method.getName()),
                    "a private method has the name of a public one: " + method);
            need(method.getParameterCount() <= 7, "too many parameters: " + method);
        }
    }

    private static Class<?>[] parts() {
        Class<?>[] inside = MirrorJury.class.getDeclaredClasses();
        Class<?>[] all = Arrays.copyOf(inside, inside.length + 1);
        all[inside.length] = MirrorJury.class;
        return all;
    }

    private static boolean isFaceOrPrivate(int modifiers) {
        return Modifier.isPrivate(modifiers) || Modifier.isPublic(modifiers);
    }

    /** Rules of LANGUAGE.md that the text alone shows; what the rules allow is not looked for. */
    private static void checkSource(String source) {
        String code = source.replaceAll("(?s)/\\*.*?\\*/", "").replaceAll("(?m)//.*$", "");
        for (String word : new String[] {"finally", "synchronized", "assert", "hashCode", "NaN", "Random", "Thread",
                "getMessage", "package", "[a-z]+Exact", "ArrayIndexOutOfBoundsException", "NullPointerException",
                "ClassCastException", "NegativeArraySizeException", "ArrayStoreException"}) {
            need(!Pattern.compile("\\b" + word + "\\b").matcher(code).find(), "the source has the word " + word);
        }
        need(!Pattern.compile("(?m)^(?!\\s*(case|default)\\b).*->").matcher(code).find() && !code.contains("::"),
                "the source has a lambda or a method reference");
        need(!Pattern.compile("\\bSystem\\b(?!\\.arraycopy)").matcher(code).find(), "the source uses System");
        need(!Pattern.compile("\"[^\"\n]*[^\\x01-\\x7f][^\"\n]*\"").matcher(code).find(),
                "a text has other signs than 1 to 127");
        Matcher imports = Pattern.compile("(?m)^import (.*);").matcher(code);
        while (imports.find()) {
            need(Set.of("java.util.*", "java.util.ArrayList", "java.util.Arrays", "java.util.Iterator",
                    "java.util.List", "java.util.NoSuchElementException").contains(imports.group(1)),
                    "imports " + imports.group(1));
        }
        int length = 0;
        for (String line : source.lines().collect(Collectors.toList())) {
            boolean ends = line.equals("    }") || line.equals("        }");
            length = line.isEmpty() || ends ? 0 : length + 1;
            need(length <= 70, "a part of the code is longer than some sixty lines");
        }
    }
}
