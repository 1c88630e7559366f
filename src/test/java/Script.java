import java.lang.reflect.InvocationTargetException;
import java.lang.reflect.Method;
import java.lang.reflect.Modifier;
import java.util.ArrayList;
import java.util.HashMap;
import java.util.List;
import java.util.Map;
import java.util.regex.Matcher;
import java.util.regex.Pattern;

/**
 * A run of calls on one new HasShut, told as text: calls, parted by blanks, each with the answer that
 * is due or without one. Beside the document's calls there are:
 * fill(shelf, sort, v, v, ..): a ROW of these; say("text"): its bytes come to THE TAPE; law("text"): say
 * and law() behind it. A part told as / asks for both parts: open(0, 1, /) = 3/233.
 */
final class Script {
    private static final int MOST_CALLS = 512;
    private static final Pattern CALL =
            Pattern.compile("(\\w+)\\((?:\"([^\"]*)\"|([^()\"]*))\\)(?:\\s*=\\s*([-\\w]+(?:/\\d+)?))?");
    private static final Map<String, Method> FACE = new HashMap<>();
    private static final Map<String, Long> WORDS = Map.ofEntries(
            Map.entry("BAD", -1L), Map.entry("NOT", -2L), Map.entry("FULL", -3L), Map.entry("STATE", -5L),
            Map.entry("NOTHING", -11L), Map.entry("KIND", -12L), Map.entry("PLACE", -13L), Map.entry("SIZE", -14L),
            Map.entry("MIN", (long) Integer.MIN_VALUE), Map.entry("MAX", (long) Integer.MAX_VALUE),
            Map.entry("LMIN", Long.MIN_VALUE), Map.entry("LMAX", Long.MAX_VALUE));

    static {
        for (Method method : HasShut.class.getDeclaredMethods()) {
            if (Modifier.isPublic(method.getModifiers())) {
                FACE.put(method.getName(), method);
            }
        }
    }

    private final HasShut x = new HasShut();
    private final String sentence;
    private int calls = 0;

    private Script(String sentence) {
        this.sentence = sentence;
    }

    /** One run on a new object; $1, $2 .. in its text stand for what is told behind it. */
    static Script run(String sentence, String text, Object... told) {
        return new Script(with(sentence, told)).go(with(text, told));
    }

    private static String with(String text, Object... told) {
        String whole = text;
        for (int i = told.length; i > 0; i--) {
            whole = whole.replace("$" + i, "" + told[i - 1]);
        }
        return whole;
    }

    /** These calls, on an object that made those that were ahead. */
    Script and(String text, Object... told) {
        return go(with(text, told));
    }

    private Script go(String text) {
        Matcher call = CALL.matcher(text);
        int end = 0;
        while (call.find()) {
            Due.due(sentence + ": read " + text.substring(end, call.start()), text.substring(end, call.start()).isBlank() ? 1 : 0, 1);
            end = call.end();
            if (call.group(2) != null) {
                tell(call.group(1), call.group(2), call.group(4));
            } else {
                ask(call.group(1), call.group(3).isBlank() ? new String[0] : call.group(3).trim().split("\\s*,\\s*"), call.group(4));
            }
        }
        Due.due(sentence + ": read " + text.substring(end), text.substring(end).isBlank() ? 1 : 0, 1);
        return this;
    }

    /** The answer to one call of the document's face. */
    long call(String name, long... arguments) {
        Method method = FACE.get(name);
        calls++;
        Due.due(sentence + ": calls", calls <= MOST_CALLS ? 1 : 0, 1);
        Object[] with = new Object[arguments.length];
        Class<?>[] types = method.getParameterTypes();
        for (int i = 0; i < with.length; i++) {
            if (types[i] == long.class) {
                with[i] = arguments[i];
            } else {
                with[i] = (int) arguments[i];
            }
        }
        try {
            return ((Number) method.invoke(x, with)).longValue();
        } catch (InvocationTargetException thrown) {
            throw new IllegalStateException(sentence + ": " + name + java.util.Arrays.toString(arguments), thrown.getCause());
        } catch (ReflectiveOperationException e) {
            throw new IllegalStateException(e);
        }
    }

    private static long number(String word) {
        Long named = WORDS.get(word);
        return named != null ? named : Long.parseLong(word);
    }

    private void tell(String name, String text, String want) {
        for (int i = 0; i < text.length(); i++) {
            call("feed", text.charAt(i));
        }
        if (name.equals("law")) {
            due("law of " + text, call("law"), want);
        }
    }

    private void due(String what, long got, String want) {
        if (want != null) {
            Due.due(sentence + ": " + what, got, number(want));
        }
    }

    private void ask(String name, String[] words, String want) {
        if (name.equals("fill")) {
            fill(words);
            return;
        }
        if (words.length > 0 && words[words.length - 1].equals("/")) {
            // A whole number or a refusal stands for both parts: NOT is -2 and -2.
            String[] parts = want.contains("/") ? want.split("/") : new String[] {want, want};
            for (int part = 0; part <= 1; part++) {
                words[words.length - 1] = "" + part;
                ask(name, words, parts[part]);
            }
            return;
        }
        List<Long> numbers = new ArrayList<>();
        for (String word : words) {
            numbers.add(number(word));
        }
        long[] arguments = numbers.stream().mapToLong(Long::longValue).toArray();
        due(name + numbers, call(name, arguments), want);
    }

    private void fill(String[] words) {
        long shelf = number(words[0]);
        call("row", shelf, number(words[1]), words.length - 2);
        for (int i = 2; i < words.length; i++) {
            call("put", shelf, i - 2, number(words[i]));
        }
    }
}
