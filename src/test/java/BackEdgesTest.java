/** Promises 9 to 15 and 21: the sentences that name a boundary. (What cannot be so: ThingsEdgesTest.) */
public final class BackEdgesTest {
    /** Half of 40 is what staying costs, as REMEMBERED or without memory. */
    private static final String EVEN = "thing(72, 40) = 0 mend(0, 1, 12) mend(0, 2, 12) ";
    private static final String TWO_EVEN =
        "thing(72, 40) = 0 thing(72, 60) = 1 mend(0, 1, 12) mend(0, 2, 12) mend(1, 1, 12) mend(1, 2, 12) ";
    private static final String SIX = "thing(144, 10) = 0 thing(144, 20) = 1 thing(144, 30) = 2 "
        + "thing(144, 40) = 3 thing(144, 50) = 4 thing(144, 60) = 5 ";

    private BackEdgesTest() {
    }

    public static void main(String[] args) {
        pays();
        worth();
        howFar();
        whatIsInDoubt("best($1, 0, 2)", "LMIN");
        best();
        whatIsLookedAt();
        whatIsInDoubt("gone($1, 0)", "BAD");
        gone();
        whatIsInDoubt("plan($1, 0, 2)", "LMIN");
        plan();
        rung();
        whatIsInDoubt("camera($1, 0, 2)", "LMIN");
        camera();
        othersDoNotCount();
        greatNumbers();
        Due.end("BackEdgesTest");
    }

    private static void pays() {
        Script.run("9: GOING costs less, not as much", EVEN + "pays(1, 9) = 1 pays(1, 10) = 0 pays(1, 11) = 0 pays(2, 9) = 1 pays(2, 10) = 0");
        Script.run("9: by the whole fraction: 9/11 of 100 is 81.8", """
            thing(72, 100) = 0 pays(0, 40) = 1 pays(0, 41) = 0 mend(0, 3, 99) = 100 pays(0, 40) = 1 pays(0, 41) = 0
            mend(0, 3, 88) = 99 pays(0, 35) = 1 pays(0, 36) = 0""");
        Script.run("9: y 0 .. 99", EVEN + """
            pays(1, -1) = BAD pays(1, 100) = BAD pays(1, MIN) = BAD pays(1, MAX) = BAD pays(1, 0) = 1 pays(1, 99) = 0
            mend(0, 0, 144) = 72 mend(0, 3, 199) = 40 pays(1, 99) = 1 mend(0, 3, 198) = 199 pays(1, 99) = 0""");
        Script.run("9: tr: 10 times a THING that is there, and r 0 .. 2", EVEN + """
            pays(-1, 0) = BAD pays(3, 0) = BAD pays(9, 0) = BAD pays(10, 0) = BAD pays(12, 0) = BAD pays(MIN, 0) = BAD
            pays(MAX, 0) = BAD pays(-10, 0) = BAD pays(0, 0) = NOT pays(1, 0) = 1 pays(2, 0) = 1 thing(0, 1) = 1 pays(10, 0) = 0
            pays(12, 0) = 0 pays(13, 0) = BAD pays(22, 0) = BAD""");
        Script.run("9: HARM 0 never pays, PRICE 0 always if it may be open", EVEN + """
            mend(0, 6, 0) = 1 pays(1, 99) = 1 mend(0, 3, 0) = 40 pays(1, 0) = 0 pays(1, 99) = 0 mend(0, 3, 1) = 0 pays(1, 99) = 1
            mend(0, 0, 0) = 72 pays(1, 0) = 0 mend(0, 0, 1) = 0 pays(1, 99) = 1""");
    }

    private static void worth() {
        Script.run("10: below 0, 0 and above", EVEN + """
            worth(1, 11, /) = -2/1 worth(1, 10, /) = 0/1 worth(1, 9, /) = 2/1 mend(0, 3, 41) = 40 worth(1, 10, /) = 1/2
            worth(1, 11, /) = -3/2 mend(0, 3, 0) = 41 worth(1, 0, /) = 0/1 worth(1, 1, /) = -2/1""");
        Script.run("10: the ends of y, PRICE and HARM", EVEN + """
            worth(1, 99, /) = -178/1 worth(1, 0, /) = 20/1 worth(1, 100, 0) = LMIN worth(1, -1, 1) = LMIN worth(1, MAX, 0) = LMIN
            worth(1, MIN, 0) = LMIN mend(0, 6, 99) = 1 worth(1, 99, /) = -19582/1 mend(0, 3, 999) = 40 mend(0, 0, 144) = 72
            worth(1, 99, /) = -18603/1 mend(0, 6, 0) = 99 worth(1, 99, /) = 999/1""");
        Script.run("10: part 0, 1; tr as of pays()", EVEN + """
            worth(1, 0, -1) = LMIN worth(1, 0, 2) = LMIN worth(1, 0, MAX) = LMIN worth(1, 0, MIN) = LMIN worth(-1, 0, 0) = LMIN
            worth(3, 0, 0) = LMIN worth(9, 0, 0) = LMIN worth(10, 0, 0) = LMIN worth(12, 0, 0) = LMIN worth(MAX, 0, 0) = LMIN
            worth(MIN, 0, 0) = LMIN worth(0, 0, /) = NOT worth(2, 0, /) = 20/1""");
    }

    private static void howFar() {
        int[] harms = {0, 1, 2, 3, 4, 5, 196, 197, 198, 199, 200, 999};
        String[] far = {"NOT", "0", "0", "1", "1", "2", "97", "98", "98", "99", "99", "99"};
        for (int i = 0; i < harms.length; i++) {
            Script.run("11: HARM $1 for sure", "thing(144, $1) = 0 howFar(0) = $2 howFar(1) = $2 howFar(2) = $2", harms[i], far[i]);
        }
        Script.run("11: PRICE 0: from everywhere, or not even at 0; PRICE 99", """
            thing(144, 1) = 0 mend(0, 6, 0) = 1 howFar(0) = 99 mend(0, 3, 0) = 1 howFar(0) = NOT thing(0, 999) = 1
            howFar(12) = NOT howFar(11) = NOT mend(0, 6, 99) = 0 mend(0, 3, 198) = 0 howFar(0) = 0 mend(0, 3, 199) = 198
            howFar(0) = 1 mend(0, 3, 999) = 199 howFar(0) = 5""");
        Script.run("11: as much as it costs is not far enough", EVEN + "howFar(1) = 9 mend(0, 3, 41) = 40 howFar(1) = 10 mend(0, 3, 39) = 41 howFar(1) = 9");
        Script.run("11: tr as of pays()", """
            howFar(0) = BAD thing(144, 9) = 0 howFar(-1) = BAD howFar(3) = BAD howFar(9) = BAD howFar(10) = BAD howFar(12) = BAD
            howFar(MIN) = BAD howFar(MAX) = BAD howFar(2) = 4""");
    }

    /** dr, of a call that is told with $1 for it: 64 times those REMEMBERED, and those in doubt. */
    private static void whatIsInDoubt(String call, String bad) {
        dueBad("12 to 14, 21: THINGS that are there", "thing(144, 10) = 0 thing(144, 20) = 1 ", call, bad,
            "-1", "4", "5", "8", "16", "32", "63", "256", "260", "320", "MIN", "MAX", "-64", "-4096");
        dueBad("12 to 14, 21: those REMEMBERED are among those in doubt", SIX, call, bad, "64", "128", "2048", "66", "129", "193", "194",
            "2049", "4032", "4096", "4097", "4161", "8193", "65537", "1073741825", "-2147483647");
        dueBad("12 to 14, 21: four in doubt at most", SIX, call, bad, "31", "62", "47", "55", "63", "127", "1055", "2047", "2015", "4095");
        Script six = Script.run("12 to 14, 21: what is so in doubt", SIX);
        for (int dr : new int[] {0, 1, 32, 65, 2080, 3, 195, 67, 131, 15, 60, 975, 3900, 51, 30, 1054}) {
            String name = call.substring(0, call.indexOf('('));
            long got = name.equals("gone") ? six.call(name, dr, 0) : six.call(name, dr, 0, 2);
            Due.due("12 to 14, 21: " + name + " is BAD with " + dr, got == -1 || got == Long.MIN_VALUE ? 1 : 0, 0);
        }
    }

    private static void dueBad(String sentence, String ahead, String call, String bad, String... drs) {
        Script script = Script.run(sentence + ": " + call, ahead);
        for (String dr : drs) {
            script.and(call + " = " + bad, dr);
        }
    }

    private static void best() {
        Script.run("12: four of six, REMEMBERED or not", SIX + """
            best(60, 0, 2) = 60 best(3900, 0, 2) = 60 best(15, 0, 2) = 15 best(975, 0, 2) = 15 best(15, 99, /) = 100/1
            best(60, 99, /) = 180/1 best(51, 49, 2) = 51 best(33, 34, 2) = 33 best(33, 35, 2) = 0 best(32, 29, 2) = 32
            best(32, 30, 2) = 0""");
        Script.run("12: REMEMBERED counts for its THING", """
            thing(72, 40) = 0 thing(72, 40) = 1 open(0, 0, /) = 9/11 open(0, 1, /) = 3/13 best(3, 99, /) = 720/11
            best(195, 99, /) = 240/13 best(67, 99, /) = 6000/143 best(131, 99, /) = 6000/143""");
        Script.run("12: y 0 .. 99, part 0 .. 2", TWO_EVEN + """
            best(195, -1, 2) = LMIN best(195, 100, 2) = LMIN best(195, MIN, 2) = LMIN best(195, MAX, 2) = LMIN
            best(195, 0, -1) = LMIN best(195, 0, 3) = LMIN best(195, 0, MIN) = LMIN best(195, 0, MAX) = LMIN
            best(195, 0, /) = 0/1 best(195, 0, 2) = 3 best(195, 99, /) = 50/1 best(195, 99, 2) = 0 best(0, 100, 2) = LMIN
            best(0, -1, 2) = LMIN best(0, 0, 3) = LMIN best(0, 0, 2) = 0 best(0, 99, /) = 0/1""");
        Script.run("12: of like ones the least: not to go is 0", TWO_EVEN + """
            best(195, 24, 2) = 3 best(195, 24, /) = 48/1 best(195, 25, 2) = 0 best(195, 25, /) = 50/1 best(195, 26, 2) = 0
            best(195, 26, /) = 50/1""");
    }

    private static void whatIsLookedAt() {
        Script.run("12: of like ones the least: one that costs as much looked at is not", TWO_EVEN + """
            mend(0, 7, 19) = 0 best(195, 0, 2) = 3 best(195, 0, /) = 38/1 mend(0, 7, 20) = 19 best(195, 0, 2) = 2
            best(195, 0, /) = 40/1 mend(0, 7, 21) = 20 best(195, 0, 2) = 2 best(195, 0, /) = 41/1 mend(0, 7, 29) = 21
            best(195, 0, 2) = 2 best(195, 0, /) = 49/1 mend(0, 7, 30) = 29 best(195, 0, 2) = 0 best(195, 0, /) = 50/1
            mend(0, 7, 99) = 30 best(195, 0, 2) = 0""");
        Script.run("12: of like ones the least, that is not the first", """
            thing(144, 50) = 0 thing(144, 60) = 1 thing(144, 50) = 2 mend(0, 7, 50) = 0 best(7, 4, 2) = 2 best(7, 4, /) = 158/1
            best(7, 5, 2) = 0 best(7, 5, /) = 160/1 best(6, 4, 2) = 2 best(5, 0, 2) = 0""");
        Script.run("12: LOOK for each that is looked at, one way for all", SIX + """
            mend(0, 7, 9) = 0 best(15, 10, 2) = 15 best(15, 10, /) = 56/1 best(15, 32, 2) = 0 best(15, 31, 2) = 15
            best(15, 31, /) = 98/1 mend(0, 7, 99) = 9 best(15, 0, 2) = 0 best(15, 0, /) = 100/1""");
        Script.run("12: HARM 0, or surely shut: not looked at, though LOOK is 0", """
            thing(144, 0) = 0 thing(0, 99) = 1 thing(144, 9) = 2 best(7, 0, 2) = 4 best(7, 0, /) = 0/1 best(3, 0, 2) = 0
            best(3, 0, /) = 0/1 best(7, 99, /) = 9/1""");
    }

    private static void gone() {
        Script.run("13: nothing in doubt: not, by whatever LAW", """
            thing(144, 999) = 0 gone(0, 0) = 0 law("1") = 1 gone(0, 0) = 0 gone(0, 99) = 0 gone(1, 99) = 1""");
        Script.run("13: y 0 .. 99", """
            thing(144, 999) = 0 gone(1, -1) = BAD gone(1, 100) = BAD gone(1, MIN) = BAD gone(1, MAX) = BAD gone(0, 100) = BAD
            gone(0, -1) = BAD gone(1, 0) = 1 gone(1, 99) = 1 mend(0, 6, 6) = 1 gone(1, 83) = 1 gone(1, 84) = 0""");
        Script.run("13: of like ones the first", """
            thing(36, 40) = 0 thing(72, 20) = 1 thing(144, 10) = 2 mend(0, 1, 12) mend(0, 2, 12) mend(1, 1, 12) mend(1, 2, 12)
            mend(2, 1, 12) mend(2, 2, 12) law("h=40") = 1 gone(455, 0) = 1 gone(195, 0) = 1 gone(325, 0) = 1 gone(390, 0) = 0
            law("h=20&o=72") = 1 gone(390, 0) = 1 gone(195, 0) = 0 mend(1, 3, 21) = 20 law("h=21") = 1 gone(455, 0) = 1
            mend(2, 3, 11) = 10 law("h=11&o=144&n=3") = 1 gone(455, 0) = 1""");
        Script.run("13: all of HARM 0: the first of them", """
            thing(36, 0) = 0 thing(144, 0) = 1 law("o=144") = 1 gone(3, 0) = 0 gone(2, 0) = 1 law("h=0") = 1 gone(3, 0) = 1""");
        Script.run("13: by o as it is cut: 23 times 100 is less than 24 times 97, 9/55 of 100 more than 1/6 of 97", """
            thing(6, 100) = 0 thing(24, 97) = 1 mend(1, 1, 12) mend(1, 2, 12) open(0, 0, /) = 9/55 open(1, 1, /) = 1/6
            law("h=97") = 1 gone(131, 0) = 1 gone(1, 0) = 0""");
        Script.run("13: o by REMEMBERED", """
            thing(72, 40) = 0 law("o=117") = 1 gone(1, 0) = 1 gone(65, 0) = 0 law("o=33") = 1 gone(65, 0) = 1 gone(1, 0) = 0""");
    }

    private static void plan() {
        Script.run("14: of like ones the first: 0 ahead of 2", EVEN + """
            plan(65, 961, 2) = 0 plan(65, 961, /) = 20/1 mend(0, 8, 4) = 5 plan(65, 961, 2) = 2 plan(65, 961, /) = 19/1
            mend(0, 8, 6) = 4 plan(65, 961, 2) = 0 plan(65, 961, /) = 20/1""");
        Script.run("14: of like ones the first: 1 ahead of 2", EVEN + """
            plan(65, 321, 2) = 1 plan(65, 321, /) = 10/1 mend(0, 8, 4) = 5 plan(65, 321, 2) = 2 plan(65, 321, /) = 9/1
            mend(0, 8, 6) = 4 plan(65, 321, 2) = 1""");
        Script.run("14: of like ones the first: 0 ahead of 1", EVEN + """
            mend(0, 8, 99) = 5 plan(65, 640, 2) = 0 plan(65, 640, /) = 20/1 plan(65, 576, 2) = 1 plan(65, 576, /) = 18/1
            plan(65, 704, 2) = 0 plan(65, 704, /) = 20/1""");
        Script.run("14: all three alike: 0", """
            thing(144, 0) = 0 mend(0, 6, 0) = 1 mend(0, 8, 0) = 5 plan(1, 6337, 2) = 0 plan(1, 6337, /) = 0/1""");
        Script.run("14: y 0 .. 99, part 0 .. 2", EVEN + """
            plan(65, 0, 2) = 1 plan(65, 6400, 2) = LMIN plan(65, -1, 2) = LMIN plan(65, -64, 2) = LMIN plan(65, MIN, 2) = LMIN
            plan(65, MAX, 2) = LMIN plan(65, 6336, 2) = 0 plan(65, 6337, 2) = 0 plan(65, 6399, 2) = LMIN plan(65, 0, -1) = LMIN
            plan(65, 0, 3) = LMIN plan(65, 0, MAX) = LMIN plan(65, 0, MIN) = LMIN plan(0, 6400, 2) = LMIN plan(0, -1, 0) = LMIN
            plan(0, 6336, 2) = 0""");
        Script.run("14: what she sees is there", EVEN + """
            plan(65, 1, 2) = 1 plan(65, 2, 2) = LMIN plan(65, 3, 2) = LMIN plan(65, 32, 2) = LMIN plan(65, 63, 2) = LMIN
            plan(0, 2, 2) = LMIN plan(0, 1, 2) = 0 thing(1, 1) = 1 plan(65, 3, 2) = 1 plan(65, 4, 2) = LMIN""");
        Script.run("14: she sees all six; PLAN without LOOK", SIX + """
            plan(15, 63, 2) = 1 plan(0, 63, 2) = 0 plan(960, 63, 2) = LMIN plan(975, 63, 2) = 1 plan(15, 6399, /) = 100/1
            mend(0, 7, 99) = 0 plan(15, 3199, /) = 98/1 plan(15, 3199, 2) = 1 plan(15, 3263, 2) = 0""");
    }

    private static void rung() {
        Script.run("14: RING 0 .. 99", EVEN + """
            mend(0, 8, 0) = 5 plan(65, 961, 2) = 2 plan(65, 961, /) = 15/1 plan(65, 1, 2) = 1 plan(65, 1, /) = 0/1
            mend(0, 8, 99) = 0 plan(65, 961, 2) = 0""");
        Script.run("14: RING 99 may still be least", """
            thing(72, 999) = 0 mend(0, 1, 12) mend(0, 2, 12) mend(0, 6, 3) = 1 mend(0, 8, 99) = 5 plan(65, 4801, 2) = 2
            plan(65, 4801, /) = 324/1""");
        // From 15 yards: staying 20, going 30; if she picks up, half of 30.
        String[] costs = {"15/1", "185/12", "95/6", "65/4", "50/3", "205/12", "35/2", "215/12", "55/3", "75/4", "115/6", "235/12",
            "20/1", "20/1", "20/1"};
        Script script = Script.run("14, 15: she picks up in 12 less RUNG of twelve, RUNG 12 at most", EVEN + "mend(0, 8, 0) = 5");
        for (int i = 0; i < costs.length; i++) {
            script.and("of(0, 12) = $1 plan(65, 961, 2) = $2 plan(65, 961, /) = $3 rung() = $4",
                Math.min(i, 12), i < 12 ? 2 : 0, costs[i], Math.min(i + 1, 12));
        }
        script.and("of(0, 12) = 12 plan(65, 321, 2) = 1 plan(65, 321, /) = 10/1");
        Script.run("14: if she does not pick up, all or none with LOOK 0", EVEN + """
            mend(0, 7, 99) = 0 rung() = 1 rung() = 2 rung() = 3 rung() = 4 rung() = 5 rung() = 6 mend(0, 8, 0) = 5
            plan(65, 961, /) = 35/2 mend(0, 8, 2) = 0 plan(65, 321, 2) = 2 plan(65, 321, /) = 19/2 plan(65, 577, /) = 31/2
            plan(65, 577, 2) = 2 mend(0, 8, 3) = 2 plan(65, 321, 2) = 1 plan(65, 577, 2) = 2""");
    }

    private static void camera() {
        Script.run("21: nothing in doubt: NOT, behind BAD", """
            camera(0, 0, /) = NOT camera(0, 99, 2) = NOT camera(0, 100, 2) = LMIN camera(0, -1, 2) = LMIN camera(0, 0, 3) = LMIN
            camera(0, 0, -1) = LMIN camera(0, MIN, 0) = LMIN camera(0, MAX, 0) = LMIN camera(0, 0, MIN) = LMIN
            camera(0, 0, MAX) = LMIN thing(144, 9) = 0 camera(0, 0, /) = NOT camera(1, 0, 2) = 0""");
        Script.run("21: y 0 .. 99, part 0 .. 2", TWO_EVEN + """
            camera(195, -1, 2) = LMIN camera(195, 100, 2) = LMIN camera(195, MIN, 2) = LMIN camera(195, MAX, 2) = LMIN
            camera(195, 0, 3) = LMIN camera(195, 0, -1) = LMIN camera(195, 0, 2) = 0 camera(195, 0, /) = 0/1
            camera(195, 99, 2) = 0 camera(195, 99, /) = 0/1 camera(195, 20, 2) = 1 camera(195, 20, /) = 10/1""");
        Script.run("21: nothing is saved: of like ones the first, of those in doubt", SIX + """
            camera(60, 9, 2) = 2 camera(60, 9, /) = 0/1 camera(56, 0, 2) = 3 camera(32, 99, 2) = 5 camera(3, 1, 2) = 0""");
        Script.run("21: as much is saved: of like ones the first", """
            thing(72, 40) = 0 thing(72, 40) = 1 thing(72, 40) = 2 mend(0, 1, 12) mend(0, 2, 12) mend(1, 1, 12) mend(1, 2, 12)
            mend(2, 1, 12) mend(2, 2, 12) camera(130, 10, 2) = 1 camera(130, 10, /) = 10/1 camera(390, 15, 2) = 1
            camera(455, 22, 2) = 0 camera(195, 15, /) = 5/1 camera(195, 15, 2) = 0""");
        Script.run("21: of one that is sure it saves nothing to know", """
            thing(144, 40) = 0 thing(72, 40) = 1 mend(1, 1, 12) mend(1, 2, 12) camera(131, 25, 2) = 1 camera(131, 25, /) = 5/1
            camera(1, 10, /) = 0/1 camera(1, 20, /) = 0/1 camera(1, 30, /) = 0/1 thing(0, 40) = 2 camera(4, 10, 2) = 2
            camera(4, 10, /) = 0/1 camera(4, 0, /) = 0/1""");
        Script.run("21: one goes back for all, or not; LOOK does not count", """
            thing(72, 40) = 0 mend(0, 1, 12) mend(0, 2, 12) mend(0, 7, 99) = 0 camera(65, 0, /) = 0/1 camera(65, 9, /) = 9/1
            camera(65, 10, /) = 10/1 camera(65, 11, /) = 9/1 camera(65, 19, /) = 1/1 camera(65, 20, /) = 0/1
            camera(65, 21, /) = 0/1""");
    }

    /** What was in doubt in an earlier call, or is there only, does not count. */
    private static void othersDoNotCount() {
        Script.run("12 to 14, 21: of THINGS in doubt alone", """
            thing(72, 900) = 0 thing(72, 40) = 1 thing(144, 999) = 2 mend(1, 1, 12) mend(1, 2, 12) best(135, 99, 2) = 7 gone(135, 99) = 1
            plan(135, 6343, 2) = 1 camera(135, 99, 2) = 0 best(130, 99, /) = 20/1 best(130, 99, 2) = 0 best(130, 9, 2) = 2 best(130, 9, /) = 18/1
            gone(130, 10) = 0 gone(130, 9) = 1 plan(130, 6336, /) = 20/1 plan(130, 6336, 2) = 0 plan(130, 962, /) = 20/1
            mend(0, 8, 0) = 5 plan(130, 962, /) = 15/1 plan(130, 962, 2) = 2 camera(130, 10, 2) = 1 camera(130, 10, /) = 10/1
            best(0, 0, /) = 0/1 plan(0, 6337, /) = 0/1 plan(0, 0, 2) = 0 gone(0, 0) = 0 camera(0, 0, 2) = NOT""");
        Script.run("14: what she does not see counts as it is, if she picks up", """
            thing(72, 40) = 0 thing(72, 60) = 1 thing(144, 999) = 2 mend(0, 1, 12) mend(0, 2, 12) mend(1, 1, 12) mend(1, 2, 12)
            plan(199, 6343, 2) = 1 mend(0, 8, 0) = 5 plan(195, 1345, /) = 36/1 plan(195, 1345, 2) = 2 plan(195, 1347, /) = 63/2""");
    }

    /** Where what is below the line is as great as it comes: 1589 times 1591 times 1597 times 1601. */
    private static void greatNumbers() {
        Script.run("12, 14, 21: the greatest numbers", """
            thing(139, 999) = 0 thing(137, 997) = 1 thing(131, 991) = 2 thing(127, 983) = 3 mend(0, 1, 0) mend(0, 2, 1)
            mend(1, 1, 0) mend(1, 2, 1) mend(2, 1, 0) mend(2, 2, 1) mend(3, 1, 0) mend(3, 2, 1)
            open(0, 0, /) = 1529/1589 open(1, 0, /) = 1507/1591 open(2, 0, /) = 1441/1597 open(3, 0, /) = 1397/1601
            mend(0, 6, 99) = 1 mend(0, 8, 99) = 5 best(15, 99, 2) = 0 best(15, 99, /) = 23642005757981446/6463835938903
            plan(15, 6351, 2) = 0 plan(15, 6351, /) = 23642005757981446/6463835938903 camera(15, 99, 2) = 0
            camera(15, 99, /) = 0/1 mend(0, 6, 18) = 99 mend(0, 8, 0) = 99 plan(15, 6344, 2) = 2
            plan(15, 6344, /) = 22407726873553296/6463835938903 camera(15, 99, 2) = 3
            camera(15, 99, /) = 629384412696996/6463835938903 rung() rung() rung() rung() rung() rung() rung() rung() rung()
            rung() rung() = 11 plan(15, 6344, 2) = 2 plan(15, 6344, /) = 22984662585192209/6463835938903
            plan(15, 6351, 2) = 2 plan(15, 6351, /) = 3291009092791596/923405134129""");
    }
}
