import java.lang.reflect.Constructor;
import java.lang.reflect.Field;
import java.lang.reflect.Method;
import java.lang.reflect.Modifier;
import java.nio.file.Files;
import java.nio.file.Path;
import java.util.Arrays;
import java.util.Set;
import java.util.TreeSet;
import java.util.regex.Matcher;
import java.util.regex.Pattern;
import java.util.stream.Collectors;

/**
 * The public face as the document writes it, and those rules of LANGUAGE.md that can be seen without reading on.
 * Runs in the project's folder.
 */
public final class FaceTest {
    private static final Path DOCUMENT = Path.of("../shared/DOC.md");
    private static final Path SOURCE = Path.of("src/main/java/MirrorJury.java");
    private static int wrong = 0;

    private static void need(boolean holds, String what) {
        if (!holds) {
            wrong++;
            System.out.println("FaceTest: " + what);
        }
    }

    public static void main(String[] args) throws Exception {
        String document = Files.readString(DOCUMENT);
        String face = document.substring(document.indexOf("```java"));
        face = face.substring(0, face.indexOf("\n}"));
        compareFace(face);
        checkMembers();
        checkSource(Files.readString(SOURCE));
        System.out.println(wrong == 0 ? "FaceTest: the face is as due" : "FaceTest: " + wrong + " wrong");
        if (wrong != 0) {
            System.exit(1);
        }
    }

    private static void compareFace(String face) {
        Set<String> due = new TreeSet<>();
        Matcher m = Pattern.compile("(?m)^    (public [^;{]+);").matcher(face);
        while (m.find()) {
            due.add(m.group(1));
        }
        need(due.size() == 61, "the document has another number of members: " + due.size());
        Set<String> got = new TreeSet<>();
        for (Method method : MirrorJury.class.getMethods()) {
            if (method.getDeclaringClass() == MirrorJury.class) {
                got.add(text(method));
            }
        }
        for (Constructor<?> constructor : MirrorJury.class.getConstructors()) {
            got.add("public MirrorJury(" + (constructor.getParameterCount() == 0 ? ")" : "?"));
        }
        for (Field field : MirrorJury.class.getFields()) {
            got.add(text(field));
        }
        Set<String> plainDue = due.stream().map(FaceTest::withoutNames).collect(Collectors.toCollection(TreeSet::new));
        for (String member : plainDue) {
            need(got.contains(member), "missing: " + member);
        }
        for (String member : got) {
            need(plainDue.contains(member), "not in the document: " + member);
        }
    }

    /** Takes the names of parameters away. */
    private static String withoutNames(String member) {
        return member.replaceAll("(int|char) \\w+([,)])", "$1$2");
    }

    private static String text(Method method) {
        String thrown = Arrays.stream(method.getExceptionTypes()).map(Class::getSimpleName)
                .collect(Collectors.joining(", "));
        return "public " + method.getReturnType() + " " + method.getName() + "("
                + Arrays.stream(method.getParameterTypes()).map(Class::getSimpleName).collect(Collectors.joining(", "))
                + ")" + (thrown.isEmpty() ? "" : " throws " + thrown);
    }

    private static String text(Field field) {
        try {
            return Modifier.toString(field.getModifiers()) + " " + field.getType() + " " + field.getName() + " = "
                    + field.get(null);
        } catch (IllegalAccessException e) {
            return e.toString();
        }
    }

    private static void checkMembers() {
        Class<?> c = MirrorJury.class;
        need(Modifier.isFinal(c.getModifiers()) && Modifier.isPublic(c.getModifiers()), "not public and final");
        Set<String> faceNames = new TreeSet<>();
        for (Method method : c.getDeclaredMethods()) {
            if (Modifier.isPublic(method.getModifiers())) {
                faceNames.add(method.getName());
            }
        }
        for (Class<?> part : parts()) {
            int fields = 0;
            for (Field field : part.getDeclaredFields()) {
                boolean isStatic = Modifier.isStatic(field.getModifiers());
                fields += isStatic ? 0 : 1;
                need(!isStatic || Modifier.isFinal(field.getModifiers()), "not final: " + field);
                need(!isStatic || field.getType().isPrimitive(), "no plain constant: " + field);
                need(isFaceOrPrivate(field.getModifiers(), part), "neither face nor private: " + field);
            }
            need(fields <= 20, "too many fields: " + part);
            for (Method method : part.getDeclaredMethods()) {
                need(isFaceOrPrivate(method.getModifiers(), part), "neither face nor private: " + method);
                need(Modifier.isPublic(method.getModifiers()) || !faceNames.contains(method.getName()),
                        "a private method has the name of a public one: " + method);
                need(method.getParameterCount() <= 7, "too many parameters: " + method);
            }
        }
        need(parts().length <= 12, "too many classes");
    }

    private static Class<?>[] parts() {
        Class<?>[] inside = MirrorJury.class.getDeclaredClasses();
        Class<?>[] all = Arrays.copyOf(inside, inside.length + 1);
        all[inside.length] = MirrorJury.class;
        return all;
    }

    private static boolean isFaceOrPrivate(int modifiers, Class<?> part) {
        return Modifier.isPrivate(modifiers) || part == MirrorJury.class && Modifier.isPublic(modifiers);
    }

    private static void checkSource(String source) {
        for (String word : new String[] {"catch", "finally", "try", "synchronized", "assert", "instanceof", "equals",
                "hashCode", "toString", "System", "Object", "List", "ArrayList", "NaN", "random", "Thread"}) {
            need(!Pattern.compile("\\b" + word + "\\b").matcher(source).find(), "the source has the word " + word);
        }
        need(!source.contains("->") && !source.contains("::"), "the source has a lambda or a method reference");
        need(source.chars().allMatch(c -> c == '\n' || c >= 32 && c < 127), "the source has other signs than 32 to 126");
        need(source.lines().noneMatch(l -> l.length() > 120), "a line is too long");
        Matcher imports = Pattern.compile("(?m)^import (.*);").matcher(source);
        while (imports.find()) {
            need(imports.group(1).equals("java.util.NoSuchElementException"), "imports " + imports.group(1));
        }
        int length = 0;
        for (String line : source.lines().collect(Collectors.toList())) {
            boolean ends = line.equals("    }") || line.equals("        }");
            length = line.isEmpty() || ends ? 0 : length + 1;
            need(length <= 60, "a part of the code is longer than 60 lines");
        }
    }
}
