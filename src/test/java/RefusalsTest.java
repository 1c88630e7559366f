import java.util.ArrayList;
import java.util.List;

/**
 * What is answered by a refusal changes nothing: behind each refused call all that can be asked of the
 * object is answered as it is without that call. Each argument that has bounds is told beyond them.
 */
public final class RefusalsTest {
    /** A call with arguments that are so, the refusal, and for each argument the next ones beyond its bounds. */
    record Face(String name, String refusal, String so, String... beyond) {
    }

    private static final List<Face> FACES = List.of(
        new Face("thing", "BAD", "6, 100", "-1 145", "-1 1000"),
        new Face("things", "BAD", "1, 0, 1", "-1 6", "", "0 7 -1"),
        new Face("mend", "BAD", "0, 0, 7", "-1 6", "-1 10 11 12", "-1 145"),
        new Face("mend", "BAD", "0, 1, 7", "-1 6", "", "-1 13"),
        new Face("mend", "BAD", "0, 2, 7", "-1 6", "", "-1 13"),
        new Face("mend", "BAD", "0, 3, 7", "-1 6", "", "-1 1000"),
        new Face("mend", "BAD", "0, 4, 1", "-1 6", "", "-1 2"),
        new Face("mend", "BAD", "0, 5, 1", "-1 6", "", "-1 6"),
        new Face("mend", "BAD", "0, 6, 1", "-1 1 2", "", "-1 100"),
        new Face("mend", "BAD", "0, 7, 1", "-1 1 2", "", "-1 100"),
        new Face("mend", "BAD", "0, 8, 1", "-1 1 2", "", "-1 100"),
        new Face("mend", "BAD", "12, 9, 1", "-1 0 6 11 16 55 56 60 61 100", "", "-1 100"),
        new Face("of", "BAD", "0, 0", "-1 6", "-1 13"),
        new Face("of", "BAD", "0, 10", "-1 6"),
        new Face("of", "BAD", "0, 11", "-1 1"),
        new Face("of", "BAD", "0, 12", "-1 1"),
        new Face("feed", "BAD", "49", "-1 256"),
        new Face("open", "LMIN", "0, 0, 0", "-1 6", "-1 3", "-1 2"),
        new Face("pays", "BAD", "0, 0", "-1 3 60", "-1 100"),
        new Face("worth", "LMIN", "0, 0, 0", "-1 3 60", "-1 100", "-1 2"),
        new Face("howFar", "BAD", "0", "-1 3 9 60"),
        new Face("best", "LMIN", "1, 0, 2", "-1 64 31 63 4096 4097", "-1 100", "-1 3"),
        new Face("gone", "BAD", "1, 0", "-1 64 31 63 4096 4097", "-1 100"),
        new Face("plan", "LMIN", "1, 1, 2", "-1 64 31 63 4096 4097", "-1 6400", "-1 3"),
        new Face("two", "LMIN", "606, 0, 0", "-1 13 1300", "-1 4", "-1 2"),
        new Face("shortest", "BAD", "1, 0, 0", "-1 6 60", "-1 64", "-2"),
        new Face("length", "BAD", "1, 0", "-1 6", "-1 2"),
        new Face("list", "LMIN", "0, 0", "-1 13 600", "-1 2"),
        new Face("ever", "LMIN", "0, 1, 0", "-1 6", "-1 8", "-1 2"),
        new Face("camera", "LMIN", "1, 0, 2", "-1 64 31 63 4096 4097", "-1 100", "-1 3"),
        new Face("drawn", "BAD", "5, 9, 1, 0", "", "0 61", "-1 5 6000", "-1 2"),
        new Face("fits", "BAD", "1, 0", "-1 6", "-1 2 60"),
        new Face("when", "BAD", "1, 0, 0", "-1 6", "-1 2 60", "-1 5"),
        new Face("judge", "BAD", "2", "-1 6"),
        new Face("morning", "BAD", "0, 5", "-1 6"),
        new Face("goBack", "BAD", "5", "-1 100"),
        new Face("led", "BAD", "0", "-1 5"),
        new Face("body", "BAD", "0", "-1 8"),
        new Face("trace", "BAD", "0", "-1 24"),
        new Face("keep", "BAD", "1, 0", "-1 6", "-2 50"),
        new Face("row", "BAD", "1, 0, 1", "-1 6", "-1 5", "61"),
        new Face("put", "BAD", "1, 0, 9", "-1 6"),
        new Face("element", "LMIN", "1, 0", "-1 6", "-1 60"),
        new Face("shift", "BAD", "1, 0, 1, 0, 1", "-1 6", "", "-1 6"),
        new Face("taken", "BAD", "0, 0", "-1 6", "-1 8"),
        new Face("count", "BAD", "0", "-1 6"));

    private RefusalsTest() {
    }

    public static void main(String[] args) {
        State[] states = {new State("new", ""), new State("in a morning", inAMorning()), new State("full of things", fullOfThings()),
            new State("full of bodies", fullOfBodies())};
        for (State state : states) {
            for (Face face : FACES) {
                beyond(state, face);
            }
        }
        told(states);
        Due.end("RefusalsTest");
    }

    /** A run of calls, and all that can be asked of the object behind it. */
    private static final class State {
        final String name;
        final String calls;
        final List<Long> asked;

        State(String name, String calls) {
            this.name = name;
            this.calls = calls;
            this.asked = all(Script.run(name, calls));
        }

        /** The call is answered so, and changes nothing. */
        void due(String call, String refusal) {
            Script script = Script.run(name, calls);
            script.and(call + " = " + refusal);
            List<Long> behind = all(script);
            for (int i = 0; i < asked.size(); i++) {
                Due.due(name + ": behind " + call + " " + refusal + ", answer " + i, behind.get(i), asked.get(i));
            }
        }
    }

    private static String inAMorning() {
        return """
            thing(72, 40) thing(36, 60) thing(0, 7) thing(144, 9) mend(2, 1, 12) mend(0, 4, 1) mend(12, 9, 4) mend(0, 6, 2) mend(1, 5, 2)
            mend(0, 7, 3) mend(3, 2, 0) undo() undo() law("o>3?h-50;v=1|y<5") say("o+") rung() rung() morning(0, 5) goBack(3) dayOff()
            morning(2, 5) goBack(1) image() morning(0, 77) body(0) body(7) body(3) keep(0, 1) fill(1, 0, 1, 5, 0, 7) fill(2, 1, 0, 1, 33)
            fill(3, 4, 1, 0) fill(5, 0, 9, 9, 9) act(1, 3, 5)""";
    }

    private static String fullOfThings() {
        StringBuilder calls = new StringBuilder("""
            thing(72, 40) thing(36, 60) thing(0, 7) thing(144, 9) thing(7, 100) thing(8, 200) fill(0, 0, 1, 1, 1) fill(1, 0, 1, 3, 1, 7)
            body(2) keep(4, 0) fill(5, 2, 7) mend(2, 1, 12)""");
        for (int i = 1; i <= 40; i++) {
            calls.append(" mend(").append(i % 6).append(", ").append(i % 2 == 0 ? 3 : 0).append(", ").append(100 + i).append(")");
        }
        return calls.toString();
    }

    private static String fullOfBodies() {
        StringBuilder calls = new StringBuilder("thing(0, 40) law(\"1\") keep(0, -1) row(2, 0, 0)");
        for (int i = 0; i < 50; i++) {
            calls.append(" body(").append(i % 8).append(")");
        }
        calls.append(" say(\"").append("o+".repeat(60)).append("\") keep(3, 49) fill(1, 0, 9, 9, 9)");
        return calls.toString();
    }

    private static void beyond(State state, Face face) {
        String[] so = face.so.split(", ");
        for (int i = 0; i < face.beyond.length; i++) {
            for (String v : (face.beyond[i] + farBeyond(face, i)).trim().split(" +")) {
                if (!v.isEmpty()) {
                    String[] with = so.clone();
                    with[i] = v;
                    state.due(face.name + "(" + String.join(", ", with) + ")", face.refusal);
                }
            }
        }
    }

    /** A row's size below 0 is another refusal; places and k have no bound above. */
    private static String farBeyond(Face face, int i) {
        if (face.beyond[i].isEmpty()) {
            return "";
        }
        return face.name.equals("row") && i == 2 ? " MAX" : face.name.equals("shortest") && i == 2 ? " MIN" : " MIN MAX";
    }

    /** The refusals that are not BAD, each in a state that asks for it. */
    private static void told(State[] states) {
        String[][] due = {
            {"undo() = STATE", "redo() = STATE", "back() = STATE", "goOn() = STATE", "goBack(5) = STATE", "camera(0, 0, 2) = NOT",
                "shortest(1, 0, 2) = NOT", "length(0, 0) = NOTHING", "judge(0) = NOTHING", "put(0, 0, 1) = NOTHING", "element(0, 0) = LMIN",
                "shift(0, 0, 1, 0, 0) = NOTHING", "taken(0, 0) = NOTHING", "row(0, 0, -1) = SIZE", "dayOff() = 0", "things(0, 0, 1) = 0"},
            {"morning(0, 5) = STATE", "morning(3, 5) = STATE", "open(2, 0, 0) = NOT", "pays(20, 5) = NOT", "worth(20, 5, 0) = NOT", "howFar(20) = NOT",
                "best(4, 5, 2) = NOT", "gone(4, 5) = NOT", "plan(4, 5, 2) = NOT", "camera(4, 5, 2) = NOT", "list(300, 0) = NOT", "length(4, 0) = NOTHING",
                "length(0, 0) = KIND", "length(2, 0) = KIND", "length(1, 0) = STATE", "fits(4, 0) = NOTHING", "fits(0, 0) = KIND", "fits(2, 0) = KIND",
                "fits(5, 0) = STATE", "when(4, 0, 0) = NOTHING", "when(3, 0, 0) = KIND", "when(5, 0, 0) = STATE", "judge(4) = NOTHING", "judge(1) = KIND",
                "things(0, 0, 1) = KIND", "things(2, 0, 1) = KIND", "things(4, 0, 1) = 0", "things(1, 2, 1) = 0", "things(5, 1, 1) = 0",
                "put(4, 0, 1) = NOTHING", "put(0, 0, 1) = KIND", "put(1, 4, 1) = PLACE", "put(1, -1, 1) = PLACE", "element(4, 0) = LMIN",
                "element(0, 0) = LMIN", "element(1, 4) = LMIN", "shift(4, 0, 1, 0, 1) = NOTHING", "shift(1, 0, 4, 0, 1) = NOTHING",
                "shift(0, 0, 1, 0, 1) = KIND", "shift(1, 0, 2, 0, 1) = KIND", "shift(1, 0, 5, 0, 4) = PLACE", "shift(5, 0, 1, 2, 3) = PLACE",
                "shift(1, 0, 1, 1, 4) = PLACE", "shift(1, 0, 1, 0, -1) = PLACE", "taken(4, 0) = NOTHING", "taken(1, 0) = KIND", "taken(0, 2) = KIND",
                "row(1, 0, -1) = SIZE", "row(0, 4, -1) = SIZE", "row(1, 1, MIN) = SIZE", "mend(0, 0, 72) = 72", "mend(1, 5, 2) = 2", "mend(21, 9, 4) = 4",
                "mend(0, 4, 1) = 1"},
            {"thing(6, 100) = FULL", "thing(145, 100) = BAD", "redo() = STATE", "goBack(5) = STATE", "goOn() = STATE", "back() = STATE",
                "things(0, 0, 1) = 0", "open(2, 0, 0) = NOT", "howFar(20) = NOT", "judge(0) = KIND", "put(5, 1, 1) = PLACE", "body(8) = BAD"},
            {"body(0) = FULL", "body(8) = BAD", "feed(49) = FULL", "feed(256) = BAD", "undo() = STATE", "back() = STATE", "goBack(0) = STATE",
                "goOn() = STATE", "keep(0, 50) = BAD", "length(2, 0) = STATE", "fits(1, 0) = STATE", "when(1, 0, 1) = STATE", "taken(3, 0) = 1",
                "things(1, 1, 6) = 0", "things(2, 0, 1) = 0"},
        };
        for (int i = 0; i < states.length; i++) {
            for (String call : due[i]) {
                String[] parts = call.split(" = ");
                states[i].due(parts[0], parts[1]);
            }
        }
    }

    /** All that can be asked, and what is then done ends as it would. */
    private static List<Long> all(Script script) {
        List<Long> answers = new ArrayList<>();
        for (int i = 0; i < 16; i++) {
            answers.add(script.call("trace", i));
        }
        numbers(script, answers);
        onShelves(script, answers);
        answers.add(script.call("gone", 1, 3));
        answers.add(script.call("gone", 2, 60));
        answers.add(script.call("drawn", 5, 9, 24, 0));
        answers.add(script.call("goOn"));
        answers.add(script.call("led", 3));
        answers.add(script.call("dayOff"));
        answers.add(script.call("of", 0, 10));
        answers.add(script.call("back"));
        answers.add(script.call("goOn"));
        answers.add(script.call("dayOff"));
        days(script, answers);
        for (String name : new String[] {"law", "redo", "redo", "redo", "undo", "undo", "undo", "undo"}) {
            answers.add(script.call(name));
        }
        mended(script, answers);
        answers.add(script.call("gone", 1, 3));
        answers.add(script.call("thing", 6, 100));
        answers.add(script.call("body", 0));
        for (int i = 0; i < 40; i++) {
            answers.add(script.call("undo"));
        }
        mended(script, answers);
        return answers;
    }

    private static void numbers(Script script, List<Long> answers) {
        for (int what = 0; what <= 5; what++) {
            answers.add(script.call("count", what));
        }
        days(script, answers);
        mended(script, answers);
    }

    private static void days(Script script, List<Long> answers) {
        for (int what = 0; what <= 4; what++) {
            answers.add(script.call("led", what));
        }
        for (int thing = 0; thing <= 5; thing++) {
            answers.add(script.call("of", thing, 10));
        }
        answers.add(script.call("of", 0, 11));
        answers.add(script.call("of", 0, 12));
    }

    private static void mended(Script script, List<Long> answers) {
        for (int what = 0; what <= 5; what++) {
            for (int thing = 0; thing <= 5; thing++) {
                answers.add(script.call("of", thing, what));
            }
        }
        for (int what = 6; what <= 8; what++) {
            answers.add(script.call("of", 0, what));
        }
        for (int other = 1; other <= 5; other++) {
            answers.add(script.call("of", 10 * (other - 1) + other, 9));
        }
    }

    private static void onShelves(Script script, List<Long> answers) {
        for (int shelf = 0; shelf <= 5; shelf++) {
            for (int i = 0; i <= 4; i++) {
                answers.add(script.call("element", shelf, i));
            }
            answers.add(script.call("taken", shelf, 0));
            answers.add(script.call("put", shelf, 60, 0));
            answers.add(script.call("judge", shelf));
        }
    }
}
