import java.io.IOException;
import java.lang.reflect.Constructor;
import java.lang.reflect.Field;
import java.lang.reflect.Method;
import java.lang.reflect.Modifier;
import java.nio.file.Files;
import java.nio.file.Path;
import java.util.ArrayList;
import java.util.HashMap;
import java.util.HashSet;
import java.util.List;
import java.util.Map;
import java.util.Set;
import java.util.regex.Matcher;
import java.util.regex.Pattern;

/** The class has the document's face and nothing beside it, and its text has none of what LANGUAGE.md leaves out. */
public final class FaceTest {
    public static void main(String[] args) throws IOException {
        List<String> due = readFace(Files.readString(Path.of("../shared/DOC.md")));
        List<String> open = new ArrayList<>();
        Set<String> names = new HashSet<>();
        for (Constructor<?> made : Juryreel.class.getDeclaredConstructors()) {
            open.add(Modifier.isPrivate(made.getModifiers()) ? "private" : "public Juryreel()");
        }
        for (Method method : Juryreel.class.getDeclaredMethods()) {
            if (!Modifier.isPrivate(method.getModifiers())) {
                open.add(tell(method));
                names.add(method.getName());
            }
        }
        for (String line : due) {
            Check.same(line, open.contains(line), true);
        }
        Check.same("nothing else is open", open.size(), due.size());
        for (Method method : Juryreel.class.getDeclaredMethods()) {
            if (Modifier.isPrivate(method.getModifiers())) {
                Check.same("private " + method.getName(), names.contains(method.getName()), false);
            }
        }
        for (Field field : Juryreel.class.getDeclaredFields()) {
            Check.same("private " + field.getName(), Modifier.isPrivate(field.getModifiers()), true);
            Check.same("static and not final " + field.getName(), isLoose(field), false);
        }
        Check.same("final class", Modifier.isFinal(Juryreel.class.getModifiers()), true);
        for (Class<?> inner : Juryreel.class.getDeclaredClasses()) {
            Check.same("inside " + inner.getSimpleName(), isPublic(inner.getModifiers()), false);
        }
        Check.same("some twelve classes", Juryreel.class.getDeclaredClasses().length <= 12, true);
        lookAtSizes();
        lookAtText(Files.readString(Path.of("src/main/java/Juryreel.java")));
        Check.end();
    }

    /** Rule 11: at most seven parameters, and some twenty fields beside the constants. */
    private static void lookAtSizes() {
        List<Class<?>> classes = new ArrayList<>(List.of(Juryreel.class.getDeclaredClasses()));
        classes.add(Juryreel.class);
        for (Class<?> type : classes) {
            int fields = 0;
            for (Field field : type.getDeclaredFields()) {
                fields += Modifier.isStatic(field.getModifiers()) ? 0 : 1;
            }
            Check.same("some twenty fields in " + type.getSimpleName(), fields <= 20, true);
            for (Method method : type.getDeclaredMethods()) {
                Check.same("seven parameters of " + method.getName(), method.getParameterCount() <= 7, true);
            }
        }
    }

    /** Rule 11: some sixty lines a method; a method ends with the brace that stands under its first sign. */
    private static void lookAtLengths(String text) {
        Matcher method = Pattern.compile("(?ms)^((?: {4}){1,2})[A-Za-z][^\\n;]*\\)[^\\n;]*\\{\\n(.*?)^\\1\\}$").matcher(text);
        int methods = 0;
        while (method.find()) {
            methods++;
            Check.same("sixty lines behind " + method.start(), method.group(2).lines().count() <= 60, true);
        }
        Check.same("methods are found", methods > 49, true);
    }

    /** Rules 8 and 11: no recursion, and calls go at most eight deep. */
    private static void lookAtDepths(String code) {
        Map<String, Set<String>> calls = new HashMap<>();
        Matcher method = Pattern.compile("(?ms)^((?: {4}){1,2})[A-Za-z][^\\n;=]* (\\w+)\\([^\\n;]*\\{\\n(.*?)^\\1\\}$").matcher(code);
        while (method.find()) {
            Set<String> called = calls.computeIfAbsent(method.group(2), name -> new HashSet<>());
            Matcher call = Pattern.compile("(?<!new )\\b(\\w+)\\(").matcher(method.group(3));
            while (call.find()) {
                called.add(call.group(1));
            }
        }
        Check.same("methods with calls are found", calls.size() > 100, true);
        for (String name : calls.keySet()) {
            int depth = depthOf(name, calls, 0);
            Check.same("eight deep from " + name + ", not " + depth, depth <= 8, true);
        }
    }

    private static int depthOf(String name, Map<String, Set<String>> calls, int open) {
        if (open > 20 || !calls.containsKey(name)) {
            return open > 20 ? 20 : 0;
        }
        int depth = 0;
        for (String called : calls.get(name)) {
            depth = Math.max(depth, depthOf(called, calls, open + 1));
        }
        return depth + 1;
    }

    private static boolean isPublic(int modifiers) {
        return Modifier.isPublic(modifiers) || Modifier.isProtected(modifiers);
    }

    private static boolean isLoose(Field field) {
        return Modifier.isStatic(field.getModifiers()) && !Modifier.isFinal(field.getModifiers());
    }

    /** The face's lines, without names of parameters and without spaces that tell nothing. */
    private static List<String> readFace(String doc) {
        List<String> lines = new ArrayList<>();
        Matcher line = Pattern.compile("(?m)^    (public [\\w ]*)\\((.*?)\\)( throws .*)?;$").matcher(doc);
        while (line.find()) {
            String parameters = line.group(2).replaceAll("(\\w+) \\w+", "$1").replace(", ", ",");
            String thrown = line.group(3) == null ? "" : line.group(3).replace(", ", ",");
            lines.add(line.group(1) + "(" + parameters + ")" + thrown);
        }
        return lines;
    }

    private static String tell(Method method) {
        StringBuilder text = new StringBuilder();
        text.append("public ").append(method.getReturnType().getSimpleName()).append(' ').append(method.getName()).append('(');
        for (Class<?> type : method.getParameterTypes()) {
            text.append(text.charAt(text.length() - 1) == '(' ? "" : ",").append(type.getSimpleName());
        }
        text.append(')');
        for (Class<?> type : method.getExceptionTypes()) {
            text.append(text.indexOf(" throws ") < 0 ? " throws " : ",").append(type.getSimpleName());
        }
        return (Modifier.isPublic(method.getModifiers()) ? "" : "not ") + text;
    }

    private static void lookAtText(String text) {
        lookAtLengths(text);
        String code = text.replaceAll("(?s)/\\*.*?\\*/", "").replaceAll("//[^\n]*", "").replaceAll("\"[^\"\n]*\"", "\"\"");
        String[] strange = {"->", "::", "\\btry\\b", "\\bcatch\\b", "\\bfinally\\b", "\\bsynchronized\\b", "\\bassert\\b",
            "\\blambda\\b", "\\binstanceof\\b", "\\bprotected\\b", "\\bpackage\\b", "\\.equals\\(", "\\.hashCode\\(", "\\.toString\\(",
            "\\bThread\\b", "\\bSystem\\.(?!arraycopy)", "\\bMath\\.\\w+Exact", "\\bstatic \\{", "\\bboolean\\[\\]\\[",
            "\"\" \\+", "\\+ \"\""};
        for (String sign : strange) {
            Check.same("no " + sign, Pattern.compile(sign).matcher(code).find(), false);
        }
        lookAtDepths(code);
        Matcher library = Pattern.compile("\\b[A-Z]\\w*\\.\\w+\\(").matcher(code);
        while (library.find()) {
            Check.same("of the library " + library.group(), List.of("Math.min(", "Math.max(").contains(library.group()), true);
        }
        Matcher imported = Pattern.compile("(?m)^import (.*);").matcher(code);
        while (imported.find()) {
            Check.same("import", imported.group(1), "java.util.NoSuchElementException");
        }
        Check.same("only signs that everyone has", text.matches("(?s)[\\x09\\x0a\\x20-\\x7e]*"), true);
    }
}
