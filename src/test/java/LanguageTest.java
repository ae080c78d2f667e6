import java.lang.reflect.Constructor;
import java.lang.reflect.Field;
import java.lang.reflect.Method;
import java.lang.reflect.Modifier;
import java.nio.file.Files;
import java.nio.file.Path;
import java.util.Set;
import java.util.TreeSet;
import java.util.regex.Matcher;
import java.util.regex.Pattern;
import java.util.stream.Collectors;
import java.util.stream.Stream;

/** What can be looked at of ../shared/LANGUAGE.md, and that the face is the document's. */
public final class LanguageTest {
    private static final Checks checks = new Checks("LanguageTest");
    private static final String[] FORBIDDEN = {
        "\\bpackage\\b", "\\bthrows?\\b", "\\btry\\b", "\\bcatch\\b", "\\bfinally\\b", "\\bsynchronized\\b",
        "\\bassert\\b", "::", "\\bThread\\b", "Exact\\b", "\\bhashCode\\b", "\\bSystem\\.(?!arraycopy\\b)",
        "\\bimport (?!java\\.util\\.(ArrayList|List|Arrays|Iterator|\\*);)", "\\bjava\\.(?!util\\.)", "\\bNaN\\b"};

    public static void main(String[] args) throws Exception {
        String source = Files.readString(Path.of("src/main/java/SkinLands.java"));
        String code = source.replaceAll("(?s)/\\*.*?\\*/", "").replaceAll("//[^\n]*", "");
        words(code);
        face();
        members();
        methodsStayShort(source);
        checks.end();
    }

    private static void words(String code) {
        checks.part("forbidden words");
        for (String word : FORBIDDEN) checks.dueTrue("none of " + word, !Pattern.compile(word).matcher(code).find());
        checks.dueTrue("signs 1 to 127 alone", code.chars().allMatch(sign -> sign >= 1 && sign <= 127));
    }

    private static void face() throws Exception {
        checks.part("the face");
        String document = Files.readString(Path.of("../shared/DOC.md"));
        String block = document.substring(document.indexOf("public final class SkinLands"));
        Set<String> due = new TreeSet<>();
        Matcher matcher = Pattern.compile("public (int|long) (\\w+)\\((.*?)\\);")
            .matcher(block.substring(0, block.indexOf("```")));
        while (matcher.find()) {
            String types = matcher.group(3).replaceAll(" \\w+(,|$)", "$1");
            due.add(matcher.group(1) + " " + matcher.group(2) + "(" + types + ")");
        }
        Set<String> own = new TreeSet<>();
        for (Method method : SkinLands.class.getDeclaredMethods()) {
            if (Modifier.isPrivate(method.getModifiers()) || method.isSynthetic()) continue;
            String types = Stream.of(method.getParameterTypes()).map(Class::getName).collect(Collectors.joining(", "));
            own.add(method.getReturnType() + " " + method.getName() + "(" + types + ")");
            checks.dueTrue(method + " is public", Modifier.isPublic(method.getModifiers()));
            checks.dueTrue(method + " is of an object", !Modifier.isStatic(method.getModifiers()));
        }
        checks.due("methods", due.size(), 41);
        checks.dueTrue("own " + own + ", due " + due, own.equals(due));
        Constructor<?>[] constructors = SkinLands.class.getDeclaredConstructors();
        checks.due("constructors", constructors.length, 1);
        checks.dueTrue("public, without arguments",
            Modifier.isPublic(constructors[0].getModifiers()) && constructors[0].getParameterCount() == 0);
        checks.due("public and final", SkinLands.class.getModifiers(), Modifier.PUBLIC | Modifier.FINAL);
    }

    private static void members() {
        checks.part("members");
        Set<String> acts = new TreeSet<>();
        for (Method method : SkinLands.class.getMethods()) acts.add(method.getName());
        for (Field field : SkinLands.class.getDeclaredFields()) {
            checks.dueTrue(field + " is private", Modifier.isPrivate(field.getModifiers()));
        }
        for (Method method : SkinLands.class.getDeclaredMethods()) {
            boolean isPublic = Modifier.isPublic(method.getModifiers());
            checks.dueTrue(method + " has a name of its own", isPublic || !acts.contains(method.getName()));
        }
        checks.dueTrue("some twelve classes at most", SkinLands.class.getDeclaredClasses().length <= 14);
        fieldsOf(SkinLands.class);
        for (Class<?> inside : SkinLands.class.getDeclaredClasses()) {
            checks.dueTrue(inside + " is static", Modifier.isStatic(inside.getModifiers()));
            int seenOutside = Modifier.PUBLIC | Modifier.PROTECTED;
            checks.dueTrue(inside + " is private or of the package", (inside.getModifiers() & seenOutside) == 0);
            for (Method method : inside.getDeclaredMethods()) {
                checks.dueTrue(method + ": seven parameters at most", method.getParameterCount() <= 7);
            }
            fieldsOf(inside);
        }
    }

    private static void fieldsOf(Class<?> one) {
        int ofObjects = 0;
        for (Field field : one.getDeclaredFields()) {
            boolean isStatic = Modifier.isStatic(field.getModifiers());
            if (!isStatic) ofObjects++;
            checks.dueTrue(field + " is final", !isStatic || Modifier.isFinal(field.getModifiers()));
        }
        checks.dueTrue(one + " has some twenty fields at most", ofObjects <= 22);
    }

    private static void methodsStayShort(String source) {
        checks.part("lengths");
        int begin = -1;
        String[] lines = source.split("\n");
        for (int i = 0; i < lines.length; i++) {
            if (lines[i].matches("(    |        )(public |private |static )?.*\\) \\{")) begin = i;
            boolean isEnd = lines[i].equals("    }") || lines[i].equals("        }");
            if (isEnd && begin >= 0) checks.dueTrue(lines[begin].trim() + " is short", i - begin <= 65);
        }
    }
}
