/** Promises 16 to 20: the sentences that name a boundary. */
public final class WaysEdgesTest {
    private WaysEdgesTest() {
    }

    public static void main(String[] args) {
        two();
        shortest();
        ofLikeOnes();
        wrongWays();
        length();
        lengthRefused();
        list();
        ever();
        Due.end("WaysEdgesTest");
    }

    private static void two() {
        Script.run("16: 0 .. 12 each", """
            two(0, 0, /) = 1/1 two(0, 1, /) = 0/1 two(0, 2, /) = 0/1 two(0, 3, /) = 1/1
            two(1212, 0, /) = 0/1 two(1212, 1, /) = 0/1 two(1212, 2, /) = 1/1 two(1212, 3, /) = 1/1
            two(1200, 0, /) = 0/1 two(1200, 1, /) = 1/1 two(1200, 2, /) = 0/1 two(1200, 3, /) = 0/1
            two(12, 0, /) = 0/1 two(12, 1, /) = 1/1 two(12, 2, /) = 0/1 two(12, 3, /) = 0/1
            two(606, 0, /) = 1/4 two(606, 1, /) = 1/2 two(606, 2, /) = 1/4 two(606, 3, /) = 1/2
            two(101, 0, /) = 121/144 two(101, 1, /) = 11/72 two(101, 2, /) = 1/144 two(101, 3, /) = 61/72
            two(1112, 0, /) = 0/1 two(1112, 1, /) = 1/12 two(1112, 2, /) = 11/12 two(1112, 3, /) = 11/12
            two(100, 0, /) = 11/12 two(1, 0, /) = 11/12 two(912, 1, /) = 1/4 two(1209, 1, /) = 1/4""");
        Script.run("16: BAD", """
            two(-1, 0, 0) = LMIN two(13, 0, 0) = LMIN two(99, 0, 0) = LMIN two(113, 0, 0) = LMIN two(1213, 0, 0) = LMIN
            two(1299, 0, 0) = LMIN two(1300, 0, 0) = LMIN two(1312, 0, 0) = LMIN two(MIN, 0, 0) = LMIN two(MAX, 0, 0) = LMIN
            two(-100, 0, 0) = LMIN two(-88, 0, 0) = LMIN two(606, -1, 0) = LMIN two(606, 4, 0) = LMIN two(606, MIN, 0) = LMIN
            two(606, MAX, 0) = LMIN two(606, 0, -1) = LMIN two(606, 0, 2) = LMIN two(606, 0, MIN) = LMIN two(606, 0, MAX) = LMIN""");
    }

    private static void shortest() {
        Script.run("17: from a ROOM to itself, nothing in between", """
            shortest(0, 0, -1) = 0 shortest(0, 0, 0) = 0 shortest(0, 0, 1) = 0 shortest(0, 0, 2) = NOT shortest(55, 0, -1) = 0
            shortest(55, 32, -1) = 0 shortest(55, 32, 0) = 5 shortest(55, 32, 1) = 5 shortest(55, 32, 2) = NOT
            shortest(55, 0, MAX) = NOT""");
        Script.run("17: a first, z last, a and z not in between", """
            shortest(5, 33, -1) = 9 shortest(5, 33, 0) = 0 shortest(5, 33, 1) = 5 shortest(5, 33, 2) = NOT
            shortest(50, 33, 0) = 5 shortest(50, 33, 1) = 0 shortest(5, 63, -1) = 45 shortest(5, 63, 0) = 0
            shortest(5, 63, 5) = 5 shortest(5, 63, 6) = NOT shortest(0, 63, -1) = 54 shortest(0, 63, 0) = 0
            shortest(0, 63, 6) = 0 shortest(0, 63, 7) = NOT shortest(5, 30, -1) = 45 shortest(0, 62, -1) = 54""");
        Script.run("17: yards 0 .. 99, as far back", """
            mend(1, 9, 0) = 9 shortest(1, 0, -1) = 0 shortest(10, 0, -1) = 0 mend(10, 9, 99) = 0 shortest(1, 0, -1) = 99
            shortest(10, 0, -1) = 99 mend(12, 9, 99) = 9 mend(20, 9, 99) = 9 shortest(0, 6, -1) = 297 shortest(2, 2, -1) = 198""");
        Script.run("17: each told ROOM once, though a way round would be less", """
            mend(1, 9, 99) = 9 shortest(1, 0, -1) = 99 shortest(1, 0, 1) = 1 shortest(1, 4, -1) = 18 shortest(1, 12, -1) = 27""");
    }

    private static void ofLikeOnes() {
        Script.run("17: of like ones the first by numbers", """
            shortest(52, 27, 0) = 5 shortest(52, 27, 1) = 0 shortest(52, 27, 2) = 1 shortest(52, 27, 3) = 3 shortest(52, 27, 4) = 4
            shortest(52, 27, 5) = 2 mend(1, 9, 10) = 9 shortest(52, 27, 1) = 0 shortest(52, 27, 2) = 3 shortest(52, 27, 3) = 1
            shortest(52, 27, 4) = 4 shortest(52, 27, -1) = 45 mend(50, 9, 10) = 9 shortest(52, 27, 1) = 1
            shortest(52, 27, 2) = 3 shortest(52, 27, 3) = 0 shortest(52, 27, 4) = 4 shortest(52, 27, -1) = 45""");
        Script.run("17: there and back round the same ring: the one that begins with the least", """
            mend(1, 9, 1) = 9 mend(12, 9, 1) = 9 mend(23, 9, 1) = 9 mend(34, 9, 1) = 9 mend(45, 9, 1) = 9 mend(50, 9, 1) = 9
            shortest(33, 55, -1) = 6 shortest(33, 55, 1) = 2 shortest(33, 55, 2) = 1 shortest(33, 55, 3) = 0 shortest(33, 55, 4) = 5
            shortest(33, 55, 5) = 4 shortest(33, 55, 6) = 3 shortest(0, 62, 1) = 1 shortest(0, 62, 5) = 5 shortest(55, 31, 1) = 0
            shortest(55, 31, 5) = 4""");
        Script.run("17: the last order of all, if it alone is shortest", """
            mend(54, 9, 0) = 9 mend(43, 9, 0) = 9 mend(32, 9, 0) = 9 mend(21, 9, 0) = 9 mend(10, 9, 0) = 9 shortest(50, 63, -1) = 0
            shortest(50, 63, 1) = 4 shortest(50, 63, 4) = 1 shortest(5, 63, 1) = 1 shortest(5, 63, 4) = 4""");
    }

    private static void wrongWays() {
        Script.run("17: BAD, ahead of NOT", """
            shortest(-1, 0, 0) = BAD shortest(6, 0, 0) = BAD shortest(9, 0, 0) = BAD shortest(16, 0, 0) = BAD shortest(56, 0, 0) = BAD
            shortest(60, 0, 0) = BAD shortest(65, 0, 0) = BAD shortest(100, 0, 0) = BAD shortest(MIN, 0, 0) = BAD
            shortest(MAX, 0, 0) = BAD shortest(-10, 0, 0) = BAD shortest(0, -1, 0) = BAD shortest(0, 64, 0) = BAD
            shortest(0, MIN, 0) = BAD shortest(0, MAX, 0) = BAD shortest(0, 0, -2) = BAD shortest(0, 0, MIN) = BAD
            shortest(6, 0, 9) = BAD shortest(0, 64, 9) = BAD shortest(6, 0, -1) = BAD shortest(0, 64, -1) = BAD
            shortest(0, 0, 9) = NOT shortest(0, 0, MAX) = NOT""");
    }

    private static void length() {
        Script.run("18: ROOMS 0 .. 5", """
            fill(5, 0, 0, 5) length(5, 0) = 9 length(5, 1) = 0 put(5, 0, 6) = 1 length(5, 0) = STATE length(5, 1) = STATE
            put(5, 0, -1) = 1 length(5, 0) = STATE put(5, 0, 127) = 1 length(5, 0) = STATE put(5, 0, -128) = 1
            length(5, 1) = STATE put(5, 0, 256) = 1 length(5, 0) = 9 put(5, 1, 6) = 1 length(5, 0) = STATE
            length(5, 1) = STATE put(5, 1, 0) = 1 length(5, 0) = 0 length(5, 1) = 0""");
        Script.run("18: one ROOM, and the same again", """
            fill(0, 0, 3) length(0, 0) = 0 length(0, 1) = 0 fill(0, 0, 3, 3, 3) length(0, 0) = 0 length(0, 1) = 0
            put(0, 0, 6) = 1 length(0, 0) = STATE row(0, 0, 0) = 1 length(0, 0) = STATE length(0, 1) = STATE""");
        Script.run("18: the longest row", """
            row(0, 0, 60) = 1 put(0, 59, 5) = 1 length(0, 0) = 9 length(0, 1) = 0 put(0, 58, 4) = 1 length(0, 0) = 18
            length(0, 1) = 0 put(0, 30, 3) = 1 length(0, 0) = 36 length(0, 1) = 9 put(0, 59, 6) = 1 length(0, 0) = STATE""");
        Script.run("18: SHORTER through the same ROOMS from its first to its last", """
            mend(1, 9, 1) = 9 mend(12, 9, 2) = 9 mend(23, 9, 3) = 9 fill(0, 0, 0, 2, 1, 3) length(0, 0) = 20 length(0, 1) = 14
            fill(0, 0, 0, 1, 2, 3) length(0, 0) = 6 length(0, 1) = 0 fill(0, 0, 0, 2, 1, 0) length(0, 0) = 12 length(0, 1) = 0
            fill(0, 0, 0, 2, 1, 2, 3, 0) length(0, 0) = 25 length(0, 1) = 10""");
    }

    private static void lengthRefused() {
        String bad = "length(-1, 0) = BAD length(6, 0) = BAD length(MIN, 0) = BAD length(MAX, 0) = BAD length(0, -1) = BAD length(0, 2) = BAD "
            + "length(0, MIN) = BAD length(0, MAX) = BAD ";
        Script.run("18: BAD ahead of -11", bad + "length(0, 0) = NOTHING length(0, 1) = NOTHING");
        Script.run("18: BAD ahead of -12", "body(0) = 0 keep(0, 0) = 1 " + bad + "length(0, 0) = KIND length(0, 1) = KIND");
        for (int sort = 1; sort <= 4; sort++) {
            Script.run("18: -12: no ROW of bytes, but of sort $1", "row(0, $1, 2) = 1 length(0, 0) = KIND length(0, 1) = KIND row(0, $1, 0) = 1 "
                + bad + "length(0, 0) = KIND length(0, 1) = KIND", sort);
        }
        Script.run("18: BAD ahead of STATE: there is none", "row(0, 0, 0) = 1 " + bad + "length(0, 0) = STATE length(0, 1) = STATE");
        Script.run("18: BAD ahead of STATE: a byte is no ROOM", "fill(0, 0, 1, 6) " + bad + "length(0, 0) = STATE length(0, 1) = STATE");
    }

    private static void list() {
        Script.run("19: s 0 .. 12, a THING that is there", """
            list(0, 0) = LMIN thing(72, 9) = 0 list(0, /) = 0/1 list(1, /) = 1/13 list(12, /) = 1/2 list(13, 0) = LMIN
            list(99, 0) = LMIN list(-1, 0) = LMIN list(-100, 0) = LMIN list(100, 0) = LMIN list(MIN, 0) = LMIN
            list(MAX, 0) = LMIN list(0, -1) = LMIN list(0, 2) = LMIN list(0, MIN) = LMIN list(0, MAX) = LMIN
            thing(144, 1) = 1 list(101, /) = 1/1 list(112, /) = 1/1 list(113, 0) = LMIN list(199, 0) = LMIN list(200, 0) = LMIN""");
        Script.run("19: NOT: nobody says yes; BAD ahead of it", """
            thing(144, 9) = 0 list(0, /) = NOT list(0, 2) = LMIN list(0, -1) = LMIN list(1, /) = 1/1 mend(0, 0, 143) = 144
            list(0, /) = 0/1 list(1, /) = 143/155 mend(0, 0, 0) = 143 list(0, /) = 0/1 list(12, /) = 0/1 mend(0, 4, 1) = 0
            list(12, /) = 0/1 mend(0, 0, 72) = 0 list(6, /) = 1/3""");
    }

    private static void ever() {
        Script.run("20: n 0 .. 7, a THING that is there", """
            ever(0, 0, 0) = LMIN thing(72, 9) = 0 ever(0, 0, /) = 0/1 ever(0, 1, /) = 1/2 ever(0, 7, /) = 127/128
            ever(0, 8, 0) = LMIN ever(0, -1, 0) = LMIN ever(0, MIN, 0) = LMIN ever(0, MAX, 0) = LMIN ever(-1, 1, 0) = LMIN
            ever(1, 1, 0) = LMIN ever(MIN, 1, 0) = LMIN ever(MAX, 1, 0) = LMIN ever(0, 1, -1) = LMIN ever(0, 1, 2) = LMIN
            ever(0, 1, MIN) = LMIN ever(0, 1, MAX) = LMIN""");
        Script.run("20: FORGOTTEN 0, 144, 1 and 143", """
            thing(0, 9) = 0 ever(0, 0, /) = 0/1 ever(0, 7, /) = 0/1 thing(144, 9) = 1 ever(1, 0, /) = 0/1 ever(1, 1, /) = 1/1
            ever(1, 7, /) = 1/1 thing(1, 9) = 2 ever(2, 7, /) = 61127383773457/1283918464548864 thing(143, 9) = 3
            ever(3, 7, /) = 1283918464548863/1283918464548864 ever(3, 1, /) = 143/144 ever(2, 1, /) = 1/144""");
    }
}
