import java.lang.reflect.Constructor;
import java.lang.reflect.Field;
import java.lang.reflect.Member;
import java.lang.reflect.Method;
import java.lang.reflect.Modifier;
import java.nio.charset.StandardCharsets;
import java.nio.file.Files;
import java.nio.file.Path;
import java.util.ArrayList;
import java.util.List;
import java.util.TreeSet;
import java.util.regex.Matcher;
import java.util.regex.Pattern;

/** The face is the document's, and the source keeps to those rules of LANGUAGE.md that can be seen from here. */
public final class LanguageTest {
    private static final Path SOURCE = Path.of("src/main/java/HasShut.java");
    private static final Path DOCUMENT = Path.of("../shared/DOC.md");

    private LanguageTest() {
    }

    public static void main(String[] args) throws Exception {
        face();
        members();
        source();
        Due.end("LanguageTest");
    }

    private static void face() throws Exception {
        String document = Files.readString(DOCUMENT, StandardCharsets.UTF_8);
        Matcher block = Pattern.compile("```java\n(.*?)```", Pattern.DOTALL).matcher(document);
        Due.due("the document tells the face", block.find() ? 1 : 0, 1);
        TreeSet<String> wanted = new TreeSet<>();
        for (String line : block.group(1).split("\n")) {
            Matcher method = Pattern.compile(" *public (int|long) (\\w+)\\((.*)\\);").matcher(line);
            if (method.matches()) {
                wanted.add(method.group(1) + " " + method.group(2) + "(" + method.group(3).replaceAll(" \\w+(,|$)", "$1") + ")");
            }
        }
        TreeSet<String> found = new TreeSet<>();
        for (Method method : HasShut.class.getDeclaredMethods()) {
            if (Modifier.isPublic(method.getModifiers())) {
                List<String> types = new ArrayList<>();
                for (Class<?> type : method.getParameterTypes()) {
                    types.add(type.getName());
                }
                found.add(method.getReturnType().getName() + " " + method.getName() + "(" + String.join(", ", types) + ")");
            }
        }
        Due.due("methods of the face", wanted.size(), 43);
        Due.due("the methods " + found + " are " + wanted, found.equals(wanted) ? 1 : 0, 1);
        Due.due("the class is public and final", HasShut.class.getModifiers(), Modifier.PUBLIC | Modifier.FINAL);
        long[] values = {-1, -2, -3, -5, -2000000000};
        String[] names = {"BAD", "NOT", "FULL", "STATE", "VOID"};
        for (int i = 0; i < names.length; i++) {
            Field constant = HasShut.class.getField(names[i]);
            Due.due(names[i], constant.getInt(null), values[i]);
            Due.due(names[i] + " is final", Modifier.isFinal(constant.getModifiers()) ? 1 : 0, 1);
        }
        Due.due("public fields", HasShut.class.getFields().length, names.length);
        Due.due("public constructors", HasShut.class.getConstructors().length, 1);
    }

    private static void members() {
        TreeSet<String> face = new TreeSet<>();
        List<Member> own = new ArrayList<>();
        own.addAll(List.of(HasShut.class.getDeclaredMethods()));
        own.addAll(List.of(HasShut.class.getDeclaredFields()));
        own.addAll(List.of(HasShut.class.getDeclaredConstructors()));
        for (Member member : own) {
            boolean hidden = Modifier.isPublic(member.getModifiers()) || Modifier.isPrivate(member.getModifiers());
            Due.due("rule 1: " + member + " is public or private", hidden ? 1 : 0, 1);
            if (member instanceof Method && Modifier.isPublic(member.getModifiers())) {
                face.add(member.getName());
            }
        }
        List<Class<?>> classes = new ArrayList<>(List.of(HasShut.class.getDeclaredClasses()));
        Due.due("rule 11: some twelve classes", classes.size() < 12 ? 1 : 0, 1);
        for (Class<?> inside : classes) {
            int modifiers = inside.getModifiers();
            Due.due("rule 1: " + inside + " is static", Modifier.isStatic(modifiers) ? 1 : 0, 1);
            Due.due("rule 1: " + inside + " is hidden",
                    Modifier.isPublic(modifiers) || Modifier.isProtected(modifiers) ? 1 : 0, 0);
            for (Constructor<?> constructor : inside.getDeclaredConstructors()) {
                Due.due("rule 11: " + constructor, constructor.getParameterCount() <= 7 ? 1 : 0, 1);
            }
        }
        classes.add(HasShut.class);
        for (Class<?> one : classes) {
            int fields = 0;
            for (Field field : one.getDeclaredFields()) {
                boolean isStatic = Modifier.isStatic(field.getModifiers());
                fields += isStatic ? 0 : 1;
                Due.due("rule 5: " + field, isStatic && !Modifier.isFinal(field.getModifiers()) ? 1 : 0, 0);
            }
            Due.due("rule 11: fields of " + one, fields <= 20 ? 1 : 0, 1);
            for (Method method : one.getDeclaredMethods()) {
                boolean isFace = one == HasShut.class && Modifier.isPublic(method.getModifiers());
                Due.due("rule 1: the name of " + method, !isFace && face.contains(method.getName()) ? 1 : 0, 0);
                Due.due("rule 11: " + method, method.getParameterCount() <= 7 ? 1 : 0, 1);
            }
        }
    }

    private static void source() throws Exception {
        String whole = Files.readString(SOURCE, StandardCharsets.UTF_8);
        String code = whole.replaceAll("(?s)/\\*.*?\\*/", "").replaceAll("//[^\n]*", "").replaceAll("'(\\\\.|[^'\\\\])'", "' '");
        String[] never = {"throw", "throws", "try", "catch", "synchronized", "assert", "import", "package", "equals",
            "hashCode", "toString", "native", "volatile", "transient", "instanceof", "protected"};
        for (String word : never) {
            Due.due("not in the source: " + word, Pattern.compile("\\b" + word + "\\b").matcher(code).find() ? 1 : 0, 0);
        }
        for (String sign : new String[] {"->", "::", "\"", "@"}) {
            Due.due("not in the source: " + sign, code.contains(sign) ? 1 : 0, 0);
        }
        Matcher used = Pattern.compile("\\b(Math|Integer|Long|System|Arrays|String|List|ArrayList)\\.(\\w+)").matcher(code);
        while (used.find()) {
            boolean listed = List.of("Math.min", "Math.max", "Math.abs", "Integer.bitCount", "System.arraycopy")
                    .contains(used.group());
            Due.due("rule 4: " + used.group(), listed ? 1 : 0, 1);
        }
        // What a run makes is counted: all is made with the object, by fields and constructors.
        Matcher made = Pattern.compile("[^\n]*\\bnew [A-Za-z]+[^\n]*").matcher(code);
        while (made.find()) {
            boolean withObject = made.group().matches(" +(private )?(final )?[\\w\\[\\]]+ \\w+ = new .*;")
                    || made.group().matches(" +(shelves|open)\\[i\\] = new \\w+\\(\\);");
            Due.due("rule 12: " + made.group().trim(), withObject ? 1 : 0, 1);
        }
        methodsAreShort(whole);
    }

    private static void methodsAreShort(String whole) {
        int begun = -1;
        String[] lines = whole.split("\n");
        for (int i = 0; i < lines.length; i++) {
            if (lines[i].matches("( {4}| {8})(public|private|static|int|long|boolean|void)\\b.*\\) \\{")) {
                begun = i;
            } else if (begun >= 0 && lines[i].equals(lines[begun].replaceAll("\\S.*", "") + "}")) {
                Due.due("rule 11: lines of " + lines[begun].trim(), i - begun < 60 ? 1 : 0, 1);
                begun = -1;
            }
        }
    }
}
