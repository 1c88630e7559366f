/** Promises 1 to 5 and 8: the sentences that name a boundary; each run has its promise and the words. */
public final class ThingsEdgesTest {
    private ThingsEdgesTest() {
    }

    public static void main(String[] args) {
        newObject();
        eachObjectItsOwn();
        thing();
        thingsFromRow();
        whereRowsEnd();
        mendedNumbers();
        yards();
        eachItsOwn();
        noSuchNumber();
        open();
        cannotBeSo();
        marked();
        Due.end("ThingsEdgesTest");
    }

    private static void newObject() {
        Script.run("1: nothing to be shut", """
            count(0) = 0 count(1) = 0 count(2) = 0 count(3) = 0 count(4) = 0 count(5) = 0
            of(0, 0) = BAD of(0, 10) = BAD of(5, 5) = BAD mend(0, 0, 6) = BAD mend(0, 4, 0) = BAD
            open(0, 2, 0) = LMIN pays(2, 0) = BAD worth(2, 0, 0) = LMIN howFar(2) = BAD
            best(1, 0, 0) = LMIN gone(1, 0) = BAD plan(1, 0, 0) = LMIN plan(0, 1, 0) = LMIN camera(1, 0, 0) = LMIN
            list(0, 0) = LMIN ever(0, 0, 0) = LMIN drawn(0, 1, 0, 0) = BAD morning(0, 0) = BAD
            count(0) = 0""");
        Script.run("1: nothing in doubt either", """
            best(0, 0, 2) = 0 best(0, 99, /) = 0/1 gone(0, 0) = 0 gone(0, 99) = 0
            plan(0, 0, 2) = 0 plan(0, 6336, /) = 0/1 camera(0, 0, /) = NOT camera(0, 0, 2) = NOT""");
        Script.run("1, 4, 5: PRICE 1, LOOK 0, RING 5, VAIN 0, RUNG 0 at first",
            "of(0, 6) = 1 of(0, 7) = 0 of(0, 8) = 5 of(0, 11) = 0 of(0, 12) = 0");
        Script.run("1: no MORNING, no image, no CHANGE, nothing led", """
            goBack(0) = STATE goOn() = STATE back() = STATE undo() = STATE redo() = STATE dayOff() = 0
            led(0) = 0 led(1) = 0 led(2) = 0 led(3) = 0 led(4) = 0 image() = 0""");
        Script.run("1: no GOER, no TRACE", """
            trace(0) = BAD act(0, 0, 1) = 0 act(0, 3, MAX) = 0 count(5) = 0 trace(0) = BAD keep(0, 0) = BAD""");
        for (int shelf = 0; shelf <= 5; shelf++) {
            Script.run("1: SHELF $1 holds nothing at first", """
                put($1, 0, 1) = NOTHING element($1, 0) = LMIN taken($1, 0) = NOTHING length($1, 0) = NOTHING
                judge($1) = NOTHING shift($1, 0, $1, 0, 0) = NOTHING things($1, 0, 1) = 0
                thing(6, 100) = 0 fits($1, 0) = NOTHING when($1, 0, 0) = NOTHING""", shelf);
        }
    }

    private static void eachObjectItsOwn() {
        Script one = Script.run("1: each object its own", "thing(72, 40) = 0 mend(0, 4, 1) = 0 law(\"0\") = 1 say(\"o\") rung() = 1 body(7) = 0");
        one.and("fill(0, 0, 7) image() = 0 morning(0, 5) act(0, 2, 1) mend(0, 6, 2) = 1 undo() = 1");
        Script other = Script.run("1: another object", "count(0) = 0 count(2) = 0 count(3) = 0 count(4) = 0 count(5) = 0 of(0, 12) = 0 trace(0) = BAD");
        other.and("element(0, 0) = LMIN back() = STATE goOn() = STATE redo() = STATE thing(144, 9) = 0 of(0, 4) = 0 gone(1, 0) = 1 led(0) = 0");
        one.and("count(0) = 1 of(0, 0) = 72 gone(1, 0) = 0 count(2) = 1 morning(0, 5) = STATE redo() = 0 of(0, 6) = 2 element(0, 0) = 7");
    }

    private static void thing() {
        Script.run("2: FORGOTTEN 0 .. 144, HARM 0 .. 999", """
            thing(0, 0) = 0 thing(144, 999) = 1 of(0, 0) = 0 of(0, 3) = 0 of(1, 0) = 144 of(1, 3) = 999
            thing(-1, 0) = BAD thing(145, 0) = BAD thing(0, -1) = BAD thing(0, 1000) = BAD thing(-1, -1) = BAD
            thing(145, 1000) = BAD thing(MIN, 0) = BAD thing(MAX, 0) = BAD thing(0, MIN) = BAD thing(0, MAX) = BAD
            count(0) = 2 of(2, 0) = BAD thing(1, 998) = 2""");
        Script.run("2: a THING's other numbers at first", """
            thing(7, 8) = 0 of(0, 0) = 7 of(0, 1) = 10 of(0, 2) = 3 of(0, 3) = 8 of(0, 4) = 0 of(0, 5) = 0 of(0, 10) = 0
            thing(9, 10) = 1 of(1, 1) = 10 of(1, 2) = 3 of(1, 4) = 0 of(1, 5) = 0 of(1, 10) = 0""");
        Script.run("2: six THINGS, then FULL; BAD ahead of FULL", """
            thing(1, 1) = 0 thing(1, 1) = 1 thing(1, 1) = 2 thing(1, 1) = 3 thing(1, 1) = 4 thing(1, 1) = 5
            thing(1, 1) = FULL thing(0, 0) = FULL thing(144, 999) = FULL
            thing(145, 1) = BAD thing(-1, 1) = BAD thing(1, -1) = BAD thing(1, 1000) = BAD
            count(0) = 6 of(5, 0) = 1 of(6, 0) = BAD""");
        Script.run("2: FULL of THINGS that came from a ROW, too", """
            fill(0, 0, 1, 1, 1, 2, 2, 2, 3, 3, 3, 4, 4, 4, 5, 5, 5, 6, 6, 6) things(0, 0, 5) = 5 thing(9, 9) = 5
            thing(9, 9) = FULL things(0, 0, 1) = 0 of(4, 0) = 5 of(5, 0) = 9""");
    }

    private static final String THREE = "fill(0, 0, 127, 12, 12, 0, 0, 0, 6, 10, 3) ";

    private static void thingsFromRow() {
        Script.run("3: FORGOTTEN 0 .. 127, TRACE, STALE 0 .. 12", THREE + """
            things(0, 0, 2) = 2 of(0, 0) = 127 of(0, 1) = 12 of(0, 2) = 12 of(1, 0) = 0 of(1, 1) = 0 of(1, 2) = 0
            of(0, 3) = 100 of(0, 4) = 0 of(0, 5) = 0 of(0, 10) = 0 of(1, 3) = 100 count(0) = 2 count(3) = 0 undo() = STATE""");
        for (String notSo : new String[] {"-1, 10, 3", "128, 10, 3", "-128, 10, 3", "6, 13, 3", "6, -1, 3",
            "6, 127, 3", "6, 10, 13", "6, 10, -1", "6, 10, -128"}) {
            Script.run("3: it ends where one is not so: $1", """
                fill(2, 0, 1, 2, 3, $1, 4, 5, 6) things(2, 0, 3) = 1 count(0) = 1 of(0, 2) = 3 things(2, 3, 2) = 0
                count(0) = 1 things(2, 6, 3) = 1 of(1, 0) = 4 count(0) = 2""", notSo);
        }
        Script.run("3: n 1 .. 6", THREE + """
            things(0, 0, 0) = BAD things(0, 0, 7) = BAD things(0, 0, -1) = BAD things(0, 0, MIN) = BAD
            things(0, 0, MAX) = BAD count(0) = 0 things(0, 0, 1) = 1 count(0) = 1 things(0, 0, 6) = 3 count(0) = 4""");
        Script.run("3: SHELVES 0 .. 5", """
            fill(5, 0, 1, 2, 3) fill(0, 0, 4, 5, 6) things(-1, 0, 1) = BAD things(6, 0, 1) = BAD things(MIN, 0, 1) = BAD
            things(MAX, 0, 1) = BAD count(0) = 0 things(5, 0, 1) = 1 things(0, 0, 1) = 1 of(0, 0) = 1 of(1, 0) = 4""");
        Script.run("3: no ROW of bytes: -12, behind BAD", """
            body(0) = 0 keep(0, 0) = 1 things(0, 0, 1) = KIND row(1, 1, 3) = 1 things(1, 0, 1) = KIND
            row(2, 2, 3) = 1 things(2, 0, 1) = KIND row(3, 3, 3) = 1 things(3, 0, 1) = KIND row(4, 4, 3) = 1
            things(4, 0, 1) = KIND row(5, 1, 0) = 1 things(5, 0, 1) = KIND things(0, 0, 0) = BAD things(1, 0, 7) = BAD
            count(0) = 0""");
    }

    private static void whereRowsEnd() {
        Script.run("3: a SHELF that holds nothing is missing, whatever the place; BAD ahead", """
            things(1, 0, 1) = 0 things(1, -1, 1) = 0 things(1, 60, 6) = 0 things(1, MAX, 1) = 0 things(1, MIN, 1) = 0
            things(1, 0, 0) = BAD things(1, 0, 7) = BAD row(1, 0, 3) = 1 keep(1, -1) = 1 things(1, 0, 1) = 0 count(0) = 0""");
        Script.run("3: it ends where the row ends, within a three, too", """
            row(0, 0, 0) = 1 things(0, 0, 1) = 0 row(0, 0, 1) = 1 things(0, 0, 1) = 0 row(0, 0, 2) = 1 things(0, 0, 1) = 0
            row(0, 0, 3) = 1 things(0, 0, 6) = 1 row(0, 0, 4) = 1 things(0, 0, 6) = 1 things(0, 1, 6) = 1 things(0, 2, 6) = 0
            row(0, 0, 5) = 1 things(0, 0, 6) = 1 things(0, 3, 1) = 0 things(0, 4, 1) = 0 things(0, 5, 1) = 0
            things(0, 6, 1) = 0 count(0) = 4""");
        Script.run("3: the last three of the longest row; places that it has not", """
            row(0, 0, 60) = 1 put(0, 57, 9) = 1 put(0, 59, 7) = 1 things(0, 58, 1) = 0 things(0, 59, 1) = 0
            things(0, 60, 1) = 0 things(0, MAX, 6) = 0 things(0, -1, 1) = 0 things(0, -3, 6) = 0 things(0, MIN, 6) = 0
            count(0) = 0 things(0, 57, 6) = 1 of(0, 0) = 9 of(0, 1) = 0 of(0, 2) = 7""");
        Script.run("3: it ends where THINGS are FULL: those ahead came",
            "thing(1, 1) = 0 thing(1, 1) = 1 thing(1, 1) = 2 thing(1, 1) = 3 " + THREE + """
            things(0, 0, 3) = 2 of(4, 0) = 127 of(5, 0) = 0 count(0) = 6 things(0, 0, 1) = 0 things(0, 6, 6) = 0 of(5, 0) = 0""");
    }

    private static void mendedNumbers() {
        int[] most = {144, 12, 12, 999, 1, 5, 99, 99, 99, 99};
        int[] first = {6, 10, 3, 100, 0, 0, 1, 0, 5, 9};
        for (int what = 0; what <= 9; what++) {
            Script.run("4, 5: the bounds of what $2", """
                thing(6, 100) = 0 mend($1, $2, -1) = BAD mend($1, $2, $5) = BAD mend($1, $2, MIN) = BAD mend($1, $2, MAX) = BAD
                of($1, $2) = $3 mend($1, $2, $4) = $3 of($1, $2) = $4 mend($1, $2, $5) = BAD of($1, $2) = $4
                mend($1, $2, 0) = $4 of($1, $2) = 0 mend($1, $2, 0) = 0 mend($1, $2, -1) = BAD of($1, $2) = 0""",
                what == 9 ? 20 : 0, what, first[what], most[what], most[what] + 1);
        }
        for (int what = 0; what <= 5; what++) {
            Script.run("4, 5: what $1 of a THING that is there", """
                mend(0, $1, 0) = BAD of(0, $1) = BAD thing(6, 100) = 0 mend(1, $1, 0) = BAD of(1, $1) = BAD
                mend(-1, $1, 0) = BAD of(-1, $1) = BAD mend(MIN, $1, 0) = BAD of(MAX, $1) = BAD mend(MAX, $1, 0) = BAD
                of(MIN, $1) = BAD thing(6, 100) = 1 mend(1, $1, 1) of(1, $1) = 1 mend(6, $1, 0) = BAD of(6, $1) = BAD""", what);
        }
        for (int what = 6; what <= 8; what++) {
            Script.run("4, 5: what $1 has number 0", """
                thing(6, 100) = 0 thing(6, 100) = 1 mend(1, $1, 7) = BAD of(1, $1) = BAD mend(-1, $1, 7) = BAD of(-1, $1) = BAD
                mend(10, $1, 7) = BAD of(10, $1) = BAD mend(MIN, $1, 7) = BAD of(MAX, $1) = BAD mend(0, $1, 7) of(0, $1) = 7""", what);
        }
    }

    private static void yards() {
        for (int number = -12; number <= 70; number++) {
            boolean isTwo = number >= 0 && number / 10 <= 5 && number % 10 <= 5 && number / 10 != number % 10;
            Script.run("4, 5: yards between two ROOMS, unlike, and as far back: $1",
                "of($1, 9) = $2 mend($1, 9, 7) = $2 of($1, 9) = $3 of($4, 9) = $3 count(3) = $5",
                number, isTwo ? "9" : "BAD", isTwo ? "7" : "BAD", number % 10 * 10 + number / 10, isTwo ? 1 : 0);
        }
        Script.run("4, 5: far from two ROOMS",
            "mend(MIN, 9, 0) = BAD of(MAX, 9) = BAD mend(MAX, 9, 0) = BAD of(MIN, 9) = BAD mend(101, 9, 0) = BAD of(101, 9) = BAD");
    }

    /** All that mend() tells, each with a number of its own, as far as its bounds let. */
    private static void eachItsOwn() {
        int[] most = {144, 12, 12, 999, 1, 5, 99, 99, 99, 99};
        Script script = Script.run("4, 5: each number its own", "thing(6, 1) thing(6, 1) thing(6, 1) thing(6, 1) thing(6, 1) thing(6, 1)");
        for (int round = 0; round <= 1; round++) {
            for (int thing = 0; thing <= 5; thing++) {
                for (int what = 0; what <= 5; what++) {
                    script.and(round == 0 ? "mend($1, $2, $3)" : "of($1, $2) = $3", thing, what, (10 + 7 * thing + 3 * what) % (most[what] + 1));
                }
            }
            for (int what = 6; what <= 8; what++) {
                script.and(round == 0 ? "mend(0, $1, $2)" : "of(0, $1) = $2", what, 80 + what);
            }
            for (int one = 0; one <= 5; one++) {
                for (int other = one + 1; other <= 5; other++) {
                    script.and(round == 0 ? "mend($2$1, 9, $1$2)" : "of($1$2, 9) = $1$2 of($2$1, 9) = $1$2", one, other);
                }
            }
        }
    }

    private static void noSuchNumber() {
        Script.run("4, 5: such a what is not there", """
            thing(6, 100) = 0 mend(0, -1, 0) = BAD of(0, -1) = BAD mend(0, 10, 0) = BAD mend(0, 11, 0) = BAD mend(0, 12, 0) = BAD
            mend(0, 13, 0) = BAD of(0, 13) = BAD mend(0, MIN, 0) = BAD of(0, MIN) = BAD mend(0, MAX, 0) = BAD of(0, MAX) = BAD""");
        Script.run("5: USED of a THING that is there, VAIN and RUNG with number 0", """
            of(0, 10) = BAD thing(6, 100) = 0 of(0, 10) = 0 of(1, 10) = BAD of(-1, 10) = BAD of(0, 11) = 0 of(0, 12) = 0
            thing(6, 100) = 1 of(1, 10) = 0 of(1, 11) = BAD of(1, 12) = BAD of(-1, 11) = BAD of(-1, 12) = BAD
            of(MAX, 10) = BAD of(MIN, 11) = BAD of(MAX, 12) = BAD""");
        Script.run("5: MARKED, a THING keeps its TRACE and STALE", """
            thing(6, 100) = 0 mend(0, 4, 1) = 0 of(0, 1) = 10 of(0, 2) = 3 mend(0, 2, 5) = 3 mend(0, 1, 4) = 10
            mend(0, 4, 0) = 1 of(0, 2) = 5 of(0, 1) = 4""");
    }

    private static void open() {
        Script.run("8: a THING that is there, r 0 .. 2, part 0, 1", """
            thing(6, 100) = 0 thing(0, 0) = 1 open(-1, 0, 0) = LMIN open(2, 0, 0) = LMIN open(MIN, 0, 0) = LMIN
            open(MAX, 0, 0) = LMIN open(0, -1, 0) = LMIN open(0, 3, 0) = LMIN open(0, MIN, 0) = LMIN open(0, MAX, 0) = LMIN
            open(0, 0, -1) = LMIN open(0, 0, 2) = LMIN open(0, 0, MIN) = LMIN open(0, 0, MAX) = LMIN
            open(0, 0, /) = 9/55 open(0, 1, /) = 3/233 open(0, 2, /) = 1/24 open(1, 0, /) = 0/1 open(1, 1, /) = 0/1
            open(1, 2, /) = 0/1""");
        Script.run("8: in lowest terms, 0 and 1 too", """
            thing(72, 1) = 0 open(0, 2, /) = 1/2 thing(144, 1) = 1 open(1, 0, /) = 1/1 open(1, 1, /) = 1/1 open(1, 2, /) = 1/1
            thing(1, 1) = 2 open(2, 2, /) = 1/144 thing(143, 1) = 3 open(3, 2, /) = 143/144 open(3, 0, /) = 1287/1289""");
    }

    /** Each way in which OPEN cannot be so: FORGOTTEN, TRACE, STALE, REMEMBERED, and OPEN above the line without memory. */
    private static void cannotBeSo() {
        int[][] ways = {{0, 12, 3, 0, 0}, {0, 0, 3, 1, 0}, {144, 10, 0, 1, 1}, {144, 10, 12, 0, 1}, {72, 0, 0, 1, 1}, {72, 12, 12, 0, 1}};
        for (int[] way : ways) {
            int r = way[3];
            Script.run("8 to 14, 21: it cannot be so; BAD goes ahead: $1, $2, $3, $4", """
                thing($1, 50) = 0 mend(0, 1, $2) mend(0, 2, $3) open(0, $4, /) = NOT open(0, $4, 2) = LMIN open(0, $4, -1) = LMIN
                open(0, 2, 0) = $5 pays($4, 0) = NOT pays($4, 99) = NOT pays($4, 100) = BAD pays($4, -1) = BAD
                worth($4, 0, /) = NOT worth($4, 0, 2) = LMIN worth($4, 100, 0) = LMIN worth($4, -1, 0) = LMIN
                howFar($4) = NOT best($6, 0, /) = NOT best($6, 0, 2) = NOT best($6, 0, 3) = LMIN best($6, 100, 0) = LMIN
                best($6, -1, 0) = LMIN gone($6, 0) = NOT gone($6, 100) = BAD gone($6, -1) = BAD plan($6, 0, /) = NOT
                plan($6, 0, 2) = NOT plan($6, 0, 3) = LMIN plan($6, 2, 0) = LMIN plan($6, 6400, 0) = LMIN
                camera($6, 0, /) = NOT camera($6, 0, 2) = NOT camera($6, 0, 3) = LMIN camera($6, 100, 0) = LMIN
                camera($6, -1, 0) = LMIN thing(72, 1) = 1 best($7, 0, 2) = NOT gone($7, 0) = NOT plan($7, 0, 2) = NOT
                camera($7, 0, 2) = NOT open(0, 2, 0) = $5 pays(2, 99) = 0""",
                way[0], way[1], way[2], r, way[4], 64 * r + 1, 64 * r + 3);
        }
        Script.run("8: not quite: it can be so, for sure", """
            thing(1, 50) = 0 mend(0, 1, 12) mend(0, 2, 11) open(0, 0, /) = 1/1 mend(0, 1, 0) mend(0, 2, 1) open(0, 1, /) = 1/1
            mend(0, 0, 143) mend(0, 1, 1) mend(0, 2, 0) open(0, 1, /) = 0/1 mend(0, 1, 11) mend(0, 2, 12) open(0, 0, /) = 0/1""");
    }

    private static void marked() {
        Script.run("8: with MARKED 1 TRACE counts as 12, STALE as USED; with 0 they count", """
            thing(72, 40) = 0 mend(0, 1, 0) mend(0, 2, 12) open(0, 1, /) = 1/1 mend(0, 4, 1) = 0 open(0, 1, /) = 0/1
            open(0, 0, /) = 1/1 mend(0, 4, 0) = 1 open(0, 1, /) = 1/1 open(0, 0, /) = 0/1""");
        Script.run("8: MARKED of 0: who does not remember cannot be; of 144, never USED: who remembers cannot be", """
            thing(0, 40) = 0 mend(0, 4, 1) = 0 open(0, 0, /) = NOT open(0, 1, /) = 0/1 open(0, 2, /) = 0/1
            thing(144, 40) = 1 mend(1, 4, 1) = 0 open(1, 1, /) = NOT open(1, 0, /) = 1/1 open(1, 2, /) = 1/1""");
        Script worn = Script.run("8: MARKED, USED 0 .. 12", "thing(72, 40) = 0 mend(0, 4, 1) = 0");
        String[] open = {"0/1", "1/13", "1/7", "1/5", "1/4", "5/17", "1/3", "7/19", "2/5", "3/7", "5/11", "11/23", "1/2", "1/2"};
        for (int i = 0; i < open.length; i++) {
            worn.and("of(0, 10) = $1 open(0, 1, /) = $2 open(0, 0, /) = $3 open(0, 2, /) = 1/2 morning(0, 5) goOn()",
                Math.min(i, 12), open[i], i < 12 ? "1/1" : "NOT");
        }
    }
}
