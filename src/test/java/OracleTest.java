import java.lang.reflect.InvocationTargetException;
import java.lang.reflect.Method;
import java.util.ArrayList;
import java.util.List;
import java.util.Random;

/** Runs of drawn calls on a HasShut and on the Oracle, which must answer alike. */
public final class OracleTest {
    private static final int CALLS = 512;
    private static final Random random = new Random(20261118);
    private static int told = 0;
    /** Calls of the object of this run: what it answers behind its 512th is free. */
    private static int called = 0;

    private OracleTest() {
    }

    public static void main(String[] args) throws Exception {
        List<Method> face = new ArrayList<>();
        for (Method method : HasShut.class.getDeclaredMethods()) {
            if (java.lang.reflect.Modifier.isPublic(method.getModifiers())) {
                face.add(method);
            }
        }
        face.sort((a, b) -> a.getName().compareTo(b.getName()));
        int runs = args.length > 0 ? Integer.parseInt(args[0]) : 1500;
        for (int i = 0; i < runs && told < 5; i++) {
            run(face, i);
        }
        Due.end("OracleTest");
    }

    private static void run(List<Method> face, int number) throws Exception {
        HasShut x = new HasShut();
        Oracle oracle = new Oracle();
        StringBuilder log = new StringBuilder();
        // Runs differ in what they do most: some rows only, some mornings only.
        Method focus = face.get(random.nextInt(face.size()));
        Method feed = HasShut.class.getMethod("feed", int.class);
        Method law = HasShut.class.getMethod("law");
        Method thing = HasShut.class.getMethod("thing", int.class, int.class);
        String text = "";
        int fed = 0;
        called = 0;
        for (int i = 0; called < CALLS; i++) {
            Method method = random.nextInt(6) == 0 ? focus : face.get(random.nextInt(face.size()));
            if (i < 30 && random.nextInt(4) == 0) {
                method = thing;
            }
            Object[] with;
            if (fed < text.length()) {
                method = feed;
                with = some((int) text.charAt(fed));
                fed++;
            } else if (!text.isEmpty()) {
                method = law;
                with = some();
                text = "";
            } else {
                with = arguments(method);
                if (method.getName().equals("law")) {
                    text = drawText();
                    fed = 0;
                }
                if (random.nextInt(12) == 0 && called + 61 < CALLS) {
                    fillRow(x, oracle, log);
                }
            }
            long want = call(oracle, method, with, log);
            long got = call(x, method, with, null);
            Due.due("run " + number + ", call " + i + ", " + method.getName(), got, want);
            if (got != want) {
                told++;
                System.out.println("run " + number + ":" + log);
                return;
            }
        }
    }

    private static long call(Object object, Method method, Object[] with, StringBuilder log) throws Exception {
        called += object instanceof HasShut ? 1 : 0;
        Method own = object.getClass().getMethod(method.getName(), method.getParameterTypes());
        try {
            long answer = ((Number) own.invoke(object, with)).longValue();
            if (log != null) {
                log.append(' ').append(method.getName()).append(java.util.Arrays.toString(with)).append('=').append(answer);
            }
            return answer;
        } catch (InvocationTargetException e) {
            e.getCause().printStackTrace(System.out);
            System.out.println(object.getClass() + " threw in " + method.getName() + java.util.Arrays.toString(with));
            return 123456789;
        }
    }

    /** A row that means something to one of the calls that read rows. */
    private static void fillRow(HasShut x, Oracle oracle, StringBuilder log) {
        int shelf = shelf();
        int use = random.nextInt(4);
        int n = random.nextInt(13);
        int sort = use == 2 ? 1 : 0;
        // row(), and for each element put(); ahead of one of a three two of element() and two of open() at most.
        called += 1 + (use == 2 ? 5 : 1) * n;
        x.row(shelf, sort, n);
        oracle.row(shelf, sort, n);
        for (int i = 0; i < n; i++) {
            int v;
            if (use == 0) {
                v = random.nextInt(40) == 0 ? random.nextInt(300) - 20 : random.nextInt(6);
            } else if (use == 1) {
                v = random.nextInt(40) == 0 ? random.nextInt(300) - 20 : i % 2 == 0 ? random.nextInt(2) : random.nextInt(100);
            } else if (use == 2) {
                int thing = (int) x.element(shelf, i - i % 3);
                int r = (int) x.element(shelf, i - i % 3 + 1);
                long above = x.open(thing, r, 0);
                long so = above < 0 ? 0 : 144 * above / x.open(thing, r, 1);
                v = i % 3 == 0 ? random.nextInt(6) : i % 3 == 1 ? random.nextInt(2) : (int) so + random.nextInt(20) / 19;
            } else {
                v = random.nextInt(40) == 0 ? random.nextInt(300) - 20 : random.nextInt(i % 3 == 0 ? 128 : 13);
            }
            x.put(shelf, i, v);
            oracle.put(shelf, i, v);
            log.append(" put(").append(shelf).append(',').append(i).append(',').append(v).append(')');
        }
    }

    private static String drawText() {
        StringBuilder text = new StringBuilder();
        int lines = 1 + random.nextInt(3);
        for (int i = 0; i < lines; i++) {
            text.append(i == 0 ? "" : ";").append(expression(3));
            if (random.nextInt(2) == 0) {
                text.append('?').append(expression(3));
            }
        }
        if (random.nextInt(3) == 0) {
            String signs = "ohypvn0123456789()!-+*/%<=>|&;? x";
            int at = random.nextInt(text.length());
            text.setCharAt(at, signs.charAt(random.nextInt(signs.length())));
        }
        return text.toString();
    }

    private static String expression(int deep) {
        switch (random.nextInt(deep > 0 ? 8 : 2)) {
            case 0:
                return "" + "ohypvn".charAt(random.nextInt(6));
            case 1:
                return "" + random.nextInt(random.nextBoolean() ? 10 : 10000);
            case 2:
                return "!" + expression(deep - 1);
            case 3:
                return "-" + expression(deep - 1);
            case 4:
                return "(" + expression(deep - 1) + ")";
            default:
                return expression(deep - 1) + "+-*/%<=>|&".charAt(random.nextInt(10)) + expression(deep - 1);
        }
    }

    private static int wild() {
        int[] wild = {-1, -2, Integer.MIN_VALUE, Integer.MAX_VALUE, 6, 7, 8, 60, 61, 99, 100, 145, 255, 256, 1000, 4096};
        return random.nextInt(3) == 0 ? random.nextInt() : wild[random.nextInt(wild.length)];
    }

    private static int upTo(int most) {
        return random.nextInt(most + 1);
    }

    private static int doubt() {
        int bits = upTo(63) & upTo(63);
        return 64 * (bits & upTo(63)) + bits;
    }

    private static Object[] arguments(Method method) {
        Object[] with = tame(method.getName());
        Class<?>[] types = method.getParameterTypes();
        for (int i = 0; i < with.length; i++) {
            if (random.nextInt(25) == 0) {
                with[i] = wild();
            }
            if (types[i] == long.class) {
                with[i] = random.nextInt(4) == 0 ? random.nextLong() : ((Number) with[i]).longValue();
            }
        }
        return with;
    }

    private static Object[] some(Integer... numbers) {
        return java.util.Arrays.copyOf(numbers, numbers.length, Object[].class);
    }

    /** Few shelves, so that a call meets what another one left there. */
    private static int shelf() {
        return random.nextInt(10) == 0 ? upTo(5) : upTo(1);
    }

    private static Object[] tame(String name) {
        int[] most = {144, 12, 12, 999, 1, 5, 99, 99, 99, 99};
        switch (name) {
            case "thing": return some(random.nextInt(6) == 0 ? 144 * upTo(1) : upTo(144), upTo(999));
            case "things": return some(shelf(), upTo(7) - 1, 1 + upTo(5));
            case "mend": {
                int what = random.nextInt(4) == 0 ? 4 : upTo(9);
                int number = what <= 5 ? upTo(5) : what == 9 ? 10 * upTo(5) + upTo(5) : 0;
                int v = random.nextInt(3) == 0 ? most[what] * upTo(1) : upTo(most[what]);
                return some(number, what, v);
            }
            case "of": {
                int what = upTo(12);
                return some(what <= 5 || what == 10 ? upTo(5) : what == 9 ? 10 * upTo(5) + upTo(5) : 0, what);
            }
            case "feed": return some(upTo(255));
            case "open": return some(upTo(5), upTo(2), upTo(1));
            case "pays": return some(10 * upTo(5) + upTo(2), upTo(99));
            case "worth": return some(10 * upTo(5) + upTo(2), upTo(99), upTo(1));
            case "howFar": return some(10 * upTo(5) + upTo(2));
            case "best": case "camera": return some(doubt(), upTo(random.nextBoolean() ? 99 : 9), upTo(2));
            case "gone": return some(doubt(), upTo(99));
            case "plan": return some(doubt(), 64 * upTo(random.nextBoolean() ? 99 : 9) + (upTo(63) & upTo(63)), upTo(2));
            case "two": return some(100 * upTo(12) + upTo(12), upTo(3), upTo(1));
            case "shortest": return some(10 * upTo(5) + upTo(5), upTo(63), upTo(7) - 1);
            case "length": return some(shelf(), upTo(1));
            case "list": return some(100 * upTo(5) + upTo(12), upTo(1));
            case "ever": return some(upTo(5), upTo(7), upTo(1));
            case "drawn": return some(random.nextInt(), 1 + upTo(59), 1000 * upTo(5) + 10 * upTo(99) + upTo(4), upTo(1));
            case "fits": return some(shelf(), 10 * upTo(5) + upTo(1));
            case "when": return some(shelf(), 10 * upTo(5) + upTo(1), upTo(4));
            case "judge": return some(shelf());
            case "morning": return some(upTo(5), random.nextInt());
            case "goBack": return some(upTo(99));
            case "led": return some(upTo(4));
            case "body": return some(upTo(7));
            case "act": return some(upTo(9), upTo(3), random.nextInt());
            case "trace": return some(upTo(random.nextBoolean() ? 3 : 14));
            case "keep": return some(shelf(), upTo(9) - 1);
            case "row": return some(shelf(), upTo(4), upTo(60));
            case "put": return some(shelf(), upTo(10), upTo(144));
            case "element": return some(shelf(), upTo(10));
            case "shift": return some(shelf(), upTo(6), shelf(), upTo(6), upTo(6));
            case "taken": return some(shelf(), upTo(7));
            case "count": return some(upTo(5));
            default: return some();
        }
    }
}
