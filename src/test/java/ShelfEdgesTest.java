/** Promises 35 to 44: the sentences that name a boundary. */
public final class ShelfEdgesTest {
    private static final int[] ABOVE = {-1, 0, 0, 2, 1, 3, 0, 4};

    private ShelfEdgesTest() {
    }

    public static void main(String[] args) {
        bodies();
        acts();
        bodiesThatRun();
        numbersThatWrap();
        trace();
        keep();
        rows();
        lowestBits();
        put();
        element();
        shiftRefused();
        shifted();
        taken();
        counted();
        Due.end("ShelfEdgesTest");
    }

    private static void bodies() {
        Script.run("35: KINDS 0 .. 7", "body(-1) = BAD body(8) = BAD body(MIN) = BAD body(MAX) = BAD count(4) = 0 body(0) = 0 body(7) = 1 count(4) = 2");
        Script full = Script.run("35: BODIES 0 .. 49, then FULL; BAD ahead of FULL", "");
        for (int i = 0; i < 50; i++) {
            full.and("body($1) = $2 count(4) = $3", 7 - i % 8, i, i + 1);
        }
        full.and("body(0) = FULL body(7) = FULL body(-1) = BAD body(8) = BAD body(MAX) = BAD count(4) = 50 act(49, 0, 1) = 100 act(50, 0, 1) = 0");
        full.and("keep(0, 49) = 1 taken(0, 6) = 6 keep(0, 50) = BAD taken(0, 0) = 6");
    }

    private static void acts() {
        Script.run("36: no such GOER, ACT: 0, and no TRACE then", """
            act(0, 0, 5) = 0 body(0) = 0 act(0, 0, 5) = 5 trace(0) = 1 act(1, 0, 5) = 0 count(5) = 0 trace(0) = BAD act(0, 3, 5) = 9 count(5) = 4
            act(-1, 0, 5) = 0 count(5) = 0 trace(0) = BAD act(0, 2, 5) = 5 trace(0) = 11 act(0, 4, 5) = 0 count(5) = 0 trace(0) = BAD
            act(0, 1, 5) = 10 count(5) = 2 act(0, -1, 5) = 0 count(5) = 0 trace(0) = BAD act(0, 1, 5) act(MIN, 0, 5) = 0 trace(0) = BAD
            act(0, 1, 5) act(MAX, 0, 5) = 0 trace(0) = BAD act(0, 1, 5) act(0, MIN, 5) = 0 trace(0) = BAD act(0, 1, 5)
            act(0, MAX, 5) = 0 trace(0) = BAD act(50, 0, 5) = 0 act(49, 0, 5) = 0""");
        Script.run("36: 0 is an answer of an ACT, too", "body(0) = 0 act(0, 0, 0) = 0 count(5) = 1 trace(0) = 1 act(0, 1, 0) = 0 count(5) = 2");
    }

    /** By KIND: goes(3), looks(3), shuts(3), tells(3) of a GOER of number 8 more, and which bodies ran. */
    private static void bodiesThatRun() {
        String[][] kinds = {
            {"11 1", "22 10 1", "11 11", "13 2 10 1 11"},
            {"15 20 1", "30 10 20 1", "10 11", "22 2 10 20 1 11"},
            {"13 1", "-26 30 10 1", "9 11", "-37 2 30 10 1 11"},
            {"14 1", "-30 41 30 10 1", "24 40 11", "-60 2 41 30 10 1 40 11"},
            {"18 20 1", "36 10 20 1", "-2 50 11 20 1", "40 2 10 20 1 50 11 20 1"},
            {"16 1", "-34 41 30 10 1", "42 40 11", "-65 60 2 41 30 10 1 40 11"},
            {"34 70 1", "68 10 70 1", "13 11", "53 2 10 70 1 11"},
            {"21 20 1", "35 80 10 20 1 50 11 20 1", "-8 50 11 20 1", "40 81 2 80 10 20 1 50 11 20 1 50 11 20 1"},
        };
        for (int kind = 0; kind <= 7; kind++) {
            for (int act = 0; act <= 3; act++) {
                String[] due = kinds[kind][act].split(" ");
                Script script = Script.run("36, 37: KIND $1, ACT $2", "body(0) body(1) body(2) body(3) body(4) body(5) body(6) body(7)", kind, act);
                script.and("body(0) body(1) body(2) body(3) body(4) body(5) body(6) body(7) act($1, $2, 3) = $3 count(5) = $4",
                    8 + kind, act, due[0], due.length - 1);
                for (int i = 1; i < due.length; i++) {
                    script.and("trace($1) = $2", i - 1, due[i]);
                }
                script.and("trace($1) = BAD", due.length - 1);
            }
        }
    }

    private static void numbersThatWrap() {
        Script.run("36: x is an int that wraps", """
            body(0) = 0 body(1) = 1 body(2) = 2 body(3) = 3 body(4) = 4 body(5) = 5 body(6) = 6 body(7) = 7
            act(1, 0, MAX) = -2147483645 act(1, 0, 2147483643) = MAX act(1, 0, 2147483644) = MIN act(0, 1, 1073741824) = MIN
            act(0, 1, MAX) = -2 act(0, 1, MIN) = 0 act(2, 1, -1073741826) = MIN act(2, 1, 1073741822) = MIN act(3, 1, MAX) = -6
            act(3, 2, MAX) = 2147483636 act(3, 2, 1431655765) = 2 act(6, 0, MAX) = 10 act(6, 0, MIN) = 12
            act(4, 2, MIN) = 2147483643 act(0, 2, MIN) = MIN act(0, 2, MAX) = MAX act(7, 1, MIN) = 13 act(7, 3, MIN) = 18""");
    }

    private static void trace() {
        Script script = Script.run("37: none kept, then as many as ran", "body(0) = 0 body(7) = 1 trace(0) = BAD trace(-1) = BAD");
        script.and("act(0, 0, 1) trace(0) = 1 trace(1) = BAD trace(-1) = BAD trace(MIN) = BAD trace(MAX) = BAD");
        script.and("""
            act(1, 3, 1) count(5) = 14 trace(0) = 81 trace(1) = 2 trace(2) = 80 trace(3) = 10 trace(4) = 20 trace(5) = 1 trace(6) = 50
            trace(7) = 11 trace(8) = 20 trace(9) = 1 trace(10) = 50 trace(11) = 11 trace(12) = 20 trace(13) = 1 trace(14) = BAD
            trace(23) = BAD trace(24) = BAD trace(MAX) = BAD trace(-1) = BAD""");
        script.and("act(0, 2, 1) trace(0) = 11 trace(1) = BAD trace(13) = BAD count(5) = 1 trace(0) = 11");
    }

    private static void keep() {
        Script.run("38: a SHELF, a GOER that is there, or -1", """
            keep(0, 0) = BAD keep(-1, -1) = BAD keep(6, -1) = BAD keep(MIN, -1) = BAD keep(MAX, -1) = BAD keep(0, -2) = BAD keep(0, MIN) = BAD
            keep(0, MAX) = BAD keep(0, -1) = 1 body(4) = 0 keep(0, 1) = BAD keep(-1, 0) = BAD keep(6, 0) = BAD keep(0, -2) = BAD keep(0, 0) = 1
            keep(5, 0) = 1 taken(0, 4) = 4 taken(5, 0) = 4 keep(0, 1) = BAD keep(0, -2) = BAD taken(0, 1) = 4 keep(0, -1) = 1
            taken(0, 4) = NOTHING taken(5, 4) = 4 keep(0, -1) = 1""");
        Script.run("38: nothing, where a ROW was, and again", """
            fill(2, 0, 7) keep(2, -1) = 1 element(2, 0) = LMIN put(2, 0, 1) = NOTHING length(2, 0) = NOTHING body(0) = 0 keep(2, 0) = 1
            put(2, 0, 1) = KIND element(2, 0) = LMIN row(2, 0, 1) = 1 element(2, 0) = 0 taken(2, 0) = KIND""");
    }

    private static void rows() {
        Script.run("39: SHELVES, sorts 0 .. 4, 0 .. 60 elements", """
            row(-1, 0, 1) = BAD row(6, 0, 1) = BAD row(MIN, 0, 1) = BAD row(MAX, 0, 1) = BAD row(0, -1, 1) = BAD row(0, 5, 1) = BAD
            row(0, MIN, 1) = BAD row(0, MAX, 1) = BAD row(0, 0, 61) = BAD row(0, 0, MAX) = BAD row(0, 0, -1) = SIZE row(0, 0, MIN) = SIZE
            put(0, 0, 0) = NOTHING row(0, 0, 0) = 1 put(0, 0, 0) = PLACE row(5, 4, 60) = 1 put(5, 59, 1) = 1 put(5, 60, 1) = PLACE""");
        Script.run("39: BAD ahead of -14", """
            row(6, 0, -1) = BAD row(-1, 0, -1) = BAD row(0, 5, -1) = BAD row(0, -1, -1) = BAD row(0, 4, -1) = SIZE row(5, 0, -1) = SIZE
            row(0, 5, MIN) = BAD row(0, 5, 61) = BAD""");
        for (int sort = 0; sort <= 4; sort++) {
            Script.run("39: sort $1: all 0 at first, and anew", """
                row(0, $1, 60) = 1 element(0, 0) = 0 element(0, 59) = 0 element(0, 60) = LMIN put(0, 0, 1) = 1 put(0, 59, 1) = 1 element(0, 59) = 1
                row(0, $1, 60) = 1 element(0, 0) = 0 element(0, 59) = 0 put(0, 5, 1) = 1 row(0, $1, 5) = 1 element(0, 5) = LMIN
                put(0, 5, 1) = PLACE row(0, $1, 6) = 1 element(0, 5) = 0 row(0, $1, 0) = 1 element(0, 0) = LMIN put(0, 0, 1) = PLACE
                row(0, $1, -1) = SIZE put(0, 0, 1) = PLACE row(0, $1, 1) = 1 put(0, 0, 1) = 1 row(0, $1, 61) = BAD element(0, 0) = 1
                row(0, $1, -1) = SIZE element(0, 0) = 1""", sort);
        }
        Script.run("39: each SHELF its own", """
            fill(0, 2, 10) fill(1, 2, 11) fill(2, 2, 12) fill(3, 2, 13) fill(4, 2, 14) fill(5, 2, 15) element(0, 0) = 10 element(1, 0) = 11
            element(2, 0) = 12 element(3, 0) = 13 element(4, 0) = 14 element(5, 0) = 15 row(2, 0, 1) = 1 element(2, 0) = 0
            element(1, 0) = 11 element(3, 0) = 13""");
    }

    private static void lowestBits() {
        String[] put = {"127", "128", "255", "256", "-128", "-129", "32767", "32768", "65535", "65536", "-32768", "-32769", "MAX",
            "2147483648", "4294967295", "4294967296", "MIN", "-2147483649", "LMAX", "LMIN", "0", "1", "-1", "2"};
        String[][] kept = {
            {"127", "-128", "-1", "0", "-128", "127", "-1", "0", "-1", "0", "0", "-1", "-1",
                "0", "-1", "0", "0", "-1", "-1", "0", "0", "1", "-1", "2"},
            {"127", "128", "255", "256", "-128", "-129", "32767", "-32768", "-1", "0", "-32768", "32767", "-1",
                "0", "-1", "0", "0", "-1", "-1", "0", "0", "1", "-1", "2"},
            {"127", "128", "255", "256", "-128", "-129", "32767", "32768", "65535", "65536", "-32768", "-32769", "MAX",
                "MIN", "-1", "0", "MIN", "MAX", "-1", "0", "0", "1", "-1", "2"},
            put,
            {"1", "1", "1", "1", "1", "1", "1", "1", "1", "1", "1", "1", "1", "1", "1", "1", "1", "1", "1", "1", "0", "1", "1", "1"},
        };
        for (int sort = 0; sort <= 4; sort++) {
            Script script = Script.run("40: lowest bits of sort $1", "row(0, $1, 3) = 1", sort);
            for (int i = 0; i < put.length; i++) {
                script.and("put(0, 1, $1) = 1 element(0, 1) = $2 element(0, 0) = 0 element(0, 2) = 0", put[i], kept[sort][i]);
            }
        }
    }

    private static void put() {
        Script.run("40: BAD ahead of -11, -12 and -13", """
            put(-1, 0, 1) = BAD put(6, 0, 1) = BAD put(MIN, 0, 1) = BAD put(MAX, 0, 1) = BAD put(-1, -1, 1) = BAD put(6, 60, 1) = BAD
            put(0, 0, 1) = NOTHING put(0, -1, 1) = NOTHING put(0, 60, 1) = NOTHING put(0, MAX, 1) = NOTHING put(0, MIN, 1) = NOTHING""");
        Script.run("40: -12 ahead of -13", """
            body(0) = 0 keep(0, 0) = 1 put(0, 0, 1) = KIND put(0, -1, 1) = KIND put(0, 60, 1) = KIND put(0, MAX, 1) = KIND put(0, MIN, 1) = KIND""");
        Script.run("40: -13", """
            row(0, 3, 2) = 1 put(0, -1, 9) = PLACE put(0, 2, 9) = PLACE put(0, MAX, 9) = PLACE put(0, MIN, 9) = PLACE put(0, 59, 9) = PLACE
            put(0, 60, 9) = PLACE element(0, 0) = 0 element(0, 1) = 0 put(0, 0, 7) = 1 put(0, 1, 8) = 1 element(0, 0) = 7 element(0, 1) = 8""");
    }

    private static void element() {
        Script.run("41: BAD, -11 to -13", """
            element(-1, 0) = LMIN element(6, 0) = LMIN element(MIN, 0) = LMIN element(MAX, 0) = LMIN element(0, 0) = LMIN element(0, -1) = LMIN
            body(0) = 0 keep(0, 0) = 1 element(0, 0) = LMIN element(0, -1) = LMIN fill(1, 3, 5, LMIN, -11, -12, -13, -1) element(1, -1) = LMIN
            element(1, 6) = LMIN element(1, MAX) = LMIN element(1, MIN) = LMIN element(1, 0) = 5 element(1, 1) = LMIN element(1, 2) = -11
            element(1, 3) = -12 element(1, 4) = -13 element(1, 5) = -1""");
    }

    private static void shiftRefused() {
        Script.run("42: BAD ahead of -11, -12 and -13", """
            shift(-1, 0, 0, 0, 0) = BAD shift(6, 0, 0, 0, 0) = BAD shift(0, 0, -1, 0, 0) = BAD shift(0, 0, 6, 0, 0) = BAD shift(MIN, 0, 0, 0, 0) = BAD
            shift(0, 0, MAX, 0, 0) = BAD shift(MAX, 0, 0, 0, 0) = BAD shift(0, 0, MIN, 0, 0) = BAD shift(0, 0, 0, 0, 0) = NOTHING
            body(0) = 0 keep(1, 0) = 1 shift(1, 0, 6, 0, 0) = BAD shift(-1, 0, 1, 0, 0) = BAD fill(2, 0, 5, 6) shift(2, 0, 6, 0, 1) = BAD
            shift(6, 0, 2, 0, 1) = BAD shift(2, 9, 6, 0, 1) = BAD""");
        Script.run("42: -11 (either) ahead of -12 and -13", """
            body(0) = 0 keep(1, 0) = 1 fill(2, 0, 5, 6) shift(0, 0, 1, 0, 0) = NOTHING shift(1, 0, 0, 0, 0) = NOTHING shift(0, 0, 2, 0, 1) = NOTHING
            shift(2, 0, 0, 0, 1) = NOTHING shift(2, 9, 0, 0, 1) = NOTHING shift(0, -1, 2, 0, 1) = NOTHING shift(0, 0, 3, 0, 1) = NOTHING""");
        Script.run("42: -12: no ROWS, or of unlike sorts, ahead of -13", """
            body(0) = 0 keep(1, 0) = 1 keep(3, 0) = 1 fill(2, 0, 5, 6) shift(1, 0, 2, 0, 0) = KIND shift(2, 0, 1, 0, 0) = KIND shift(1, 0, 1, 0, 0) = KIND
            shift(1, 0, 3, 0, 0) = KIND shift(1, -1, 2, 9, 1) = KIND shift(2, -1, 1, 9, 1) = KIND shift(2, 0, 3, 0, -1) = KIND""");
        for (int one = 0; one <= 4; one++) {
            for (int other = 0; other <= 4; other++) {
                Script.run("42: sorts $1 and $2", """
                    row(0, $1, 2) = 1 row(1, $2, 2) = 1 shift(0, 0, 1, 0, 1) = $3 shift(0, 0, 1, 0, 2) = $4 shift(0, 0, 1, 0, 0) = $5
                    shift(0, -1, 1, 0, 1) = $6 shift(0, 0, 1, 0, 3) = $6""",
                    one, other, one == other ? "1" : "KIND", one == other ? "2" : "KIND", one == other ? "0" : "KIND", one == other ? "PLACE" : "KIND");
            }
        }
    }

    private static void shifted() {
        Script places = Script.run("42: -13: places that are not there", "fill(0, 2, 1, 2, 3) fill(1, 2, 4, 5)");
        for (String notThere : new String[] {"-1, 1, 0, 1", "0, 1, -1, 1", "0, 1, 0, -1", "3, 1, 0, 1", "0, 1, 2, 1", "2, 1, 0, 2", "0, 1, 1, 2",
            "0, 1, 0, 3", "4, 1, 0, 0", "0, 1, 3, 0", "-1, 1, 0, 0", "0, 1, -1, 0", "MAX, 1, 0, 1", "0, 1, MAX, 1", "0, 1, 0, MAX", "1, 1, 1, MAX",
            "MIN, 1, 0, MIN", "0, 1, 0, MIN", "MAX, 1, MAX, MAX", "0, 0, 0, 4", "1, 0, 0, 3", "0, 0, 1, 3", "MAX, 1, 0, MIN"}) {
            places.and("shift(0, $1) = PLACE", notThere);
        }
        places.and("element(0, 0) = 1 element(0, 1) = 2 element(0, 2) = 3 element(1, 0) = 4 element(1, 1) = 5");
        places.and("shift(0, 3, 1, 2, 0) = 0 shift(1, 2, 0, 3, 0) = 0 shift(0, 0, 0, 0, 0) = 0 shift(0, 2, 1, 1, 1) = 1 element(1, 1) = 3 "
            + "shift(0, 0, 1, 0, 2) = 2 element(1, 0) = 1 element(1, 1) = 2 shift(0, 0, 0, 0, 3) = 3 element(0, 2) = 3");
        Script.run("42: as they all were before, to the right and to the left", """
            fill(0, 3, 1, 2, 3, 4, 5) shift(0, 0, 0, 1, 4) = 4 element(0, 0) = 1 element(0, 1) = 1 element(0, 2) = 2 element(0, 3) = 3 element(0, 4) = 4
            fill(0, 3, 1, 2, 3, 4, 5) shift(0, 1, 0, 0, 4) = 4 element(0, 0) = 2 element(0, 1) = 3 element(0, 2) = 4 element(0, 3) = 5 element(0, 4) = 5
            fill(0, 3, 1, 2, 3, 4, 5) shift(0, 0, 0, 2, 3) = 3 element(0, 1) = 2 element(0, 2) = 1 element(0, 3) = 2 element(0, 4) = 3
            fill(0, 3, 1, 2, 3, 4, 5) shift(0, 0, 0, 0, 5) = 5 element(0, 0) = 1 element(0, 4) = 5""");
        Script.run("42: rows of 60 and of none", """
            row(0, 0, 60) = 1 put(0, 59, 9) = 1 put(0, 0, 8) = 1 row(1, 0, 60) = 1 shift(0, 0, 1, 0, 60) = 60 element(1, 59) = 9 element(1, 0) = 8
            shift(0, 0, 1, 0, 61) = PLACE shift(0, 59, 1, 0, 1) = 1 element(1, 0) = 9 shift(0, 60, 1, 60, 0) = 0 shift(0, 60, 1, 0, 1) = PLACE
            row(2, 0, 0) = 1 shift(2, 0, 0, 0, 0) = 0 shift(2, 0, 2, 0, 0) = 0 shift(2, 0, 0, 0, 1) = PLACE shift(0, 0, 2, 0, 1) = PLACE
            shift(2, 1, 0, 0, 0) = PLACE""");
    }

    private static void taken() {
        for (int kind = 0; kind <= 7; kind++) {
            Script script = Script.run("43: KIND $1", "body($1) = 0 keep(0, 0) = 1", kind);
            for (int k = 0; k <= 7; k++) {
                boolean under = false;
                for (int up = kind; up >= 0; up = ABOVE[up]) {
                    under |= up == k;
                }
                script.and("taken(0, $1) = $2", k, under ? kind : "KIND");
            }
        }
        String bad = "taken(-1, 0) = BAD taken(6, 0) = BAD taken(MIN, 0) = BAD taken(MAX, 0) = BAD taken(0, -1) = BAD taken(0, 8) = BAD "
            + "taken(0, MIN) = BAD taken(0, MAX) = BAD ";
        Script.run("43: BAD ahead of -11", bad + "taken(0, 0) = NOTHING taken(0, 7) = NOTHING");
        Script.run("43: BAD ahead of -12: a ROW", "row(0, 0, 1) = 1 " + bad + "taken(0, 0) = KIND taken(0, 7) = KIND");
        Script.run("43: BAD ahead of -12: another KIND", "body(2) = 0 keep(0, 0) = 1 " + bad + "taken(0, 1) = KIND taken(0, 3) = KIND taken(0, 0) = 2");
    }

    private static void counted() {
        Script.run("44: what 0 .. 5", "count(-1) = BAD count(6) = BAD count(MIN) = BAD count(MAX) = BAD count(0) = 0 count(5) = 0");
        Script marked = Script.run("44: MARKED ones, of THINGS that are there", "");
        for (int i = 0; i < 6; i++) {
            marked.and("count(0) = $1 count(1) = $1 thing(6, 100) = $1 count(1) = $1 mend($1, 4, 1) = 0 mend($1, 4, 1) = 1", i);
        }
        marked.and("count(0) = 6 count(1) = 6 thing(6, 100) = FULL count(0) = 6 mend(0, 4, 0) = 1 count(1) = 5 undo() = 6 count(1) = 6 undo() = 5 count(1) = 5");
    }
}
