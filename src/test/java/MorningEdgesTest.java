/** Promises 22 to 34: the sentences that name a boundary. */
public final class MorningEdgesTest {
    private MorningEdgesTest() {
    }

    public static void main(String[] args) {
        drawn();
        drawnByAll();
        drawnLeavesAll();
        fits();
        cannotBeSoOnGravel();
        when();
        gravelRefused();
        judged();
        judgeRefused();
        morning();
        wentOrNot();
        used();
        vain();
        daysOff();
        led();
        images();
        laidBack();
        changes();
        fortyChanges();
        doneAgain();
        Due.end("MorningEdgesTest");
    }

    /** The next z, as the document tells it, by longs. */
    private static long next(long z) {
        return (z * 1103515245L + 12345L) & 0xffffffffL;
    }

    /** A SEED by which the first draw of 144 and the second one of 12 are these. */
    private static int seed(int first, int second) {
        for (int seed = 0; seed < 1000000; seed++) {
            long z = next(seed);
            if ((z >> 8) % 144 == first && (next(z) >> 8) % 12 == second) {
                return seed;
            }
        }
        throw new IllegalStateException("no seed");
    }

    private static void drawn() {
        String thing = "thing(72, 40) = 0 thing(144, 9) = 1 ";
        Script.run("22: n 1 .. 60", thing + """
            drawn(5, 0, 0, 0) = BAD drawn(5, -1, 0, 0) = BAD drawn(5, 61, 0, 0) = BAD drawn(5, MIN, 0, 0) = BAD
            drawn(5, MAX, 0, 0) = BAD drawn(5, 1, 1000, 0) = 9 drawn(5, 60, 1000, 0) = 540 drawn(5, 60, 1991, 0) = 11880""");
        Script.run("22: tyw: a THING that is there, y 0 .. 99, a way 0 .. 4", thing + """
            drawn(5, 1, -1, 0) = BAD drawn(5, 1, 5, 0) = BAD drawn(5, 1, 9, 0) = BAD drawn(5, 1, 999, 0) = BAD drawn(5, 1, 2000, 0) = BAD
            drawn(5, 1, -1000, 0) = BAD drawn(5, 1, MIN, 0) = BAD drawn(5, 1, MAX, 0) = BAD drawn(5, 1, 1005, 0) = BAD
            drawn(5, 1, 991, 0) = 198 drawn(5, 1, 1991, 0) = 198 drawn(5, 1, 1001, 0) = 0 drawn(5, 1, 1994, 0) = 9 drawn(5, 1, 1000, 0) = 9
            drawn(5, 1, 1044, 0) = 8 drawn(5, 1, 1054, 0) = 9 drawn(5, 1, 1043, 0) = 8 drawn(5, 1, 1053, 0) = 9""");
        Script.run("22: what 0, 1", thing + """
            drawn(5, 1, 0, -1) = BAD drawn(5, 1, 0, 2) = BAD drawn(5, 1, 0, MIN) = BAD drawn(5, 1, 0, MAX) = BAD drawn(5, 60, 1001, 1) = 0
            mend(1, 0, 0) = 144 drawn(5, 60, 1001, 1) = 60 drawn(5, 1, 1001, 1) = 1 drawn(5, 60, 1000, 1) = 0 drawn(5, 60, 1000, 0) = 0""");
        Script.run("22: no THING", "drawn(5, 1, 0, 0) = BAD");
        Script.run("22: the least and the greatest tyw", """
            thing(144, 40) = 0 drawn(5, 1, 0, 0) = 40 drawn(5, 60, 0, 0) = 2400 drawn(5, 60, 0, 1) = 0 thing(144, 1) = 1 thing(144, 1) = 2
            thing(144, 1) = 3 thing(144, 1) = 4 thing(144, 60) = 5 drawn(5, 1, 5000, 0) = 60 drawn(5, 2, 5990, 0) = 120
            drawn(5, 2, 5994, 0) = 120 drawn(5, 2, 5991, 0) = 396 drawn(5, 2, 5995, 0) = BAD drawn(5, 2, 6000, 0) = BAD
            drawn(5, 2, 5293, 0) = 116 drawn(5, 2, 5303, 0) = 120""");
    }

    /** All ways, by SEEDS at the ends of the ints, of THINGS at the ends of what they may be. */
    private static void drawnByAll() {
        int[][] things = {{72, 10, 3, 40}, {0, 0, 12, 999}, {144, 12, 0, 999}, {1, 1, 11, 1}, {143, 11, 1, 500}, {72, 12, 12, 28}, {72, 9, 3, 56}};
        int[] seeds = {0, 1, -1, 5, Integer.MAX_VALUE, Integer.MIN_VALUE, -1103515245, 987654321};
        for (int[] thing : things) {
            for (int seed : seeds) {
                Script script = Script.run("22: drawn by $1 of $2, $3, $4", "thing($2, $5) = 0 mend(0, 1, $3) mend(0, 2, $4)",
                    seed, thing[0], thing[1], thing[2], thing[3]);
                for (int n : new int[] {1, 2, 60}) {
                    dueDrawn(script, seed, n, thing);
                }
            }
        }
    }

    private static void dueDrawn(Script script, int seed, int n, int[] thing) {
        int[] costs = new int[5];
        int[] vain = new int[5];
        long z = seed;
        for (int i = 0; i < n; i++) {
            z = next(z);
            boolean open = (z >> 8) % 144 < thing[0];
            z = next(z);
            boolean remembered = (z >> 8) % 12 < (open ? thing[2] : thing[1]);
            // Not done and done, of those of which one remembers this: 14 is what going costs.
            long not = thing[0] * (remembered ? thing[2] : 12L - thing[2]);
            long all = not + (144 - thing[0]) * (remembered ? thing[1] : 12L - thing[1]);
            boolean[] goes = {false, true, !remembered, 14 * all < not * thing[3], 144 * not / all * thing[3] > 288 * 7};
            for (int way = 0; way < 5; way++) {
                costs[way] += goes[way] ? 14 : open ? thing[3] : 0;
                vain[way] += goes[way] && !open ? 1 : 0;
            }
        }
        for (int way = 0; way < 5; way++) {
            script.and("drawn($1, $2, 7$3, 0) = $4 drawn($1, $2, 7$3, 1) = $5", seed, n, way, costs[way], vain[way]);
        }
    }

    private static void drawnLeavesAll() {
        Script.run("22: VAIN, USED stay, and no MORNING is led", """
            thing(0, 40) = 0 mend(0, 4, 1) = 0 drawn(5, 60, 11, 1) = 60 of(0, 11) = 0 of(0, 10) = 0 led(0) = 0 led(1) = 0 led(2) = 0
            led(3) = 0 led(4) = 0 goOn() = STATE morning(0, 5) = 1 drawn(5, 60, 11, 1) = 60 of(0, 10) = 1 morning(0, 5) = STATE
            goBack(9) = 18 of(0, 11) = 1 drawn(5, 60, 11, 1) = 60 of(0, 11) = 1""");
        Script.run("22: a MARKED one's USED does not wear while it is drawn", """
            thing(144, 40) = 0 mend(0, 4, 1) = 0 drawn(5, 60, 992, 0) = 11880 drawn(5, 60, 992, 1) = 0 of(0, 10) = 0""");
    }

    private static void fits() {
        // Not REMEMBERED 9/11 of 40, 32.7; REMEMBERED 3/13 of 40, 9.2.
        Script.run("23: nothing on the gravel: all can be so", "thing(72, 40) = 0 row(0, 0, 0) = 1 fits(0, 0) = 31 fits(0, 1) = 31");
        Script.run("23: 0 or 1, yards 0 .. 99", """
            thing(72, 40) = 0 fill(0, 0, 0, 0) fits(0, 0) = 1 fits(0, 1) = 5 put(0, 1, 99) = 1 fits(0, 0) = 25 fits(0, 1) = 29
            put(0, 1, 100) = 1 fits(0, 0) = STATE put(0, 1, 127) = 1 fits(0, 0) = STATE put(0, 1, -1) = 1 fits(0, 0) = STATE
            put(0, 1, -128) = 1 fits(0, 0) = STATE put(0, 1, 99) = 1 put(0, 0, 1) = 1 fits(0, 0) = 6 fits(0, 1) = 2
            put(0, 0, 2) = 1 fits(0, 0) = STATE put(0, 0, -1) = 1 fits(0, 0) = STATE put(0, 0, 127) = 1 fits(0, 0) = STATE
            put(0, 0, 1) = 1 put(0, 1, 0) = 1 fits(0, 0) = 30 fits(0, 1) = 26""");
        Script.run("23: by PAYS and THE LAW: costs less, not as much", """
            thing(72, 40) = 0 mend(0, 1, 12) mend(0, 2, 12) fill(0, 0, 1, 9) fits(0, 1) = 26 put(0, 1, 10) = 1 fits(0, 1) = 2
            put(0, 0, 0) = 1 fits(0, 1) = 29 put(0, 1, 9) = 1 fits(0, 1) = 5""");
        Script.run("23: a two's end lacks", """
            thing(72, 40) = 0 fill(0, 0, 1) fits(0, 0) = STATE when(0, 0, 1) = STATE fill(0, 0, 0, 5, 1) fits(0, 0) = STATE
            when(0, 0, 1) = STATE fill(0, 0, 0, 5, 1, 5) fits(0, 0) = 0 row(0, 0, 59) = 1 fits(0, 0) = STATE row(0, 0, 60) = 1
            fits(0, 0) = 1 put(0, 58, 2) = 1 fits(0, 0) = STATE put(0, 58, 1) = 1 fits(0, 0) = 0 when(0, 0, 0) = 29 put(0, 59, 100) = 1
            fits(0, 0) = STATE when(0, 0, 1) = STATE""");
    }

    private static void cannotBeSoOnGravel() {
        Script.run("23, 24: OPEN that cannot be so counts as 0", """
            thing(144, 999) = 0 mend(0, 2, 0) = 3 open(0, 1, 0) = NOT fill(0, 0, 1, 0) fits(0, 1) = 2 when(0, 1, 3) = 0 when(0, 1, 4) = 0
            put(0, 0, 0) = 1 fits(0, 1) = 29 law("o=0") = 1 fits(0, 1) = 13 when(0, 1, 4) = 0 when(0, 1, 3) = NOT fits(0, 0) = 17""");
        Script.run("23: n is 1, h and y are the THING's and the morning's", """
            thing(144, 999) = 0 thing(144, 7) = 1 law("n=1&h=7&y=9") = 1 fill(0, 0, 1, 9, 0, 0) fits(0, 10) = 16 when(0, 10, 4) = NOT when(0, 0, 4) = 0""");
    }

    private static void when() {
        Script.run("24: the first morning, from 0; NOT: none", """
            thing(72, 40) = 0 fill(0, 0, 1, 0, 0, 99, 1, 99) when(0, 0, 0) = 0 when(0, 0, 1) = 1 when(0, 0, 2) = 1 when(0, 0, 3) = 2
            when(0, 0, 4) = 2 when(0, 1, 2) = 0 put(0, 4, 0) = 1 when(0, 0, 3) = NOT when(0, 0, 4) = NOT row(0, 0, 0) = 1
            when(0, 0, 0) = NOT when(0, 0, 1) = NOT when(0, 1, 4) = NOT""");
        Script.run("24: a way 0 .. 4", """
            thing(72, 40) = 0 row(0, 0, 0) = 1 when(0, 0, -1) = BAD when(0, 0, 5) = BAD when(0, 0, MIN) = BAD when(0, 0, MAX) = BAD
            when(0, 0, 4) = NOT when(1, 0, 5) = BAD""");
    }

    /** fits() and when() refuse alike. */
    private static void gravelRefused() {
        for (String call : new String[] {"fits($1, $2)", "when($1, $2, 0)"}) {
            dueBadTwos("row(0, 0, 0) = 1 thing(72, 40) = 0 ", call);
            dueBadTwos("thing(72, 40) = 0 ", call);
            dueBadTwos("thing(72, 40) = 0 row(0, 2, 1) = 1 ", call);
            dueBadTwos("thing(72, 40) = 0 row(0, 0, 1) = 1 ", call);
            Script refused = Script.run("23, 24: -11, -12: " + call, "body(0) = 0 thing(72, 40) = 0");
            refused.and(call + " = NOTHING", 0, 0).and("keep(0, 0) = 1 " + call + " = KIND", 0, 1);
            for (int sort = 1; sort <= 4; sort++) {
                refused.and("row(0, $3, 2) = 1 " + call + " = KIND row(0, $3, 0) = 1 " + call + " = KIND", 0, 0, sort);
            }
        }
    }

    private static void dueBadTwos(String ahead, String call) {
        Script script = Script.run("23, 24: BAD ahead of all: " + call, ahead);
        for (String shelf : new String[] {"-1", "6", "MIN", "MAX"}) {
            script.and(call + " = BAD", shelf, "0");
        }
        for (String tr : new String[] {"-1", "2", "9", "10", "11", "MIN", "MAX"}) {
            script.and(call + " = BAD", "0", tr);
        }
    }

    private static void judged() {
        // 9/11 of 144 is 117.8, 3/13 of 144 is 33.2.
        String things = "thing(72, 40) = 0 thing(0, 1) = 1 thing(144, 1) = 2 ";
        Script.run("25: in 144 parts, cut", things + """
            fill(0, 1, 0, 0, 117, 0, 1, 33, 1, 0, 0, 1, 1, 0, 2, 0, 144, 2, 1, 144) judge(0) = NOT put(0, 2, 118) = 1 judge(0) = 0
            put(0, 2, 116) = 1 judge(0) = 0 put(0, 2, 117) = 1 put(0, 5, 34) = 1 judge(0) = 1 put(0, 5, 33) = 1 put(0, 17, 143) = 1
            judge(0) = 5 put(0, 17, 145) = 1 judge(0) = 5 put(0, 8, 1) = 1 judge(0) = 2 put(0, 8, -1) = 1 judge(0) = 2""");
        for (String notSo : new String[] {"3, 0, 117", "-1, 0, 117", "6, 0, 117", "0, 2, 72", "0, -1, 117", "0, 0, -2", "32767, 0, 0",
            "-32768, 0, 0", "0, 32767, 0", "0, 0, 32767", "256, 0, 117"}) {
            Script.run("25: a three that is not so: $1", things + "fill(0, 1, $1) judge(0) = 0 fill(0, 1, 0, 1, 33, $1) judge(0) = 1 "
                + "fill(0, 1, 0, 1, 33, $1, 9, 9, 9) judge(0) = 1", notSo);
        }
        Script.run("25: a three's end that lacks", things + """
            row(0, 1, 0) = 1 judge(0) = NOT fill(0, 1, 1) judge(0) = 0 fill(0, 1, 1, 0) judge(0) = 0 fill(0, 1, 1, 0, 0) judge(0) = NOT
            fill(0, 1, 1, 0, 0, 1) judge(0) = 1 fill(0, 1, 1, 0, 0, 1, 0) judge(0) = 1 fill(0, 1, 1, 0, 1, 1, 0) judge(0) = 0""");
        Script.run("25: the longest row", "thing(0, 1) = 0 row(0, 1, 60) = 1 judge(0) = NOT put(0, 59, 1) = 1 judge(0) = 19 row(0, 1, 59) = 1 "
            + "judge(0) = 19 row(0, 1, 58) = 1 judge(0) = 19 row(0, 1, 57) = 1 judge(0) = NOT");
        Script.run("25: OPEN that cannot be so is not so, by whatever parts", """
            thing(144, 1) = 0 mend(0, 2, 0) = 3 fill(0, 1, 0, 1, 0) judge(0) = 0 put(0, 2, 144) = 1 judge(0) = 0 put(0, 2, -2) = 1
            judge(0) = 0 put(0, 1, 0) = 1 put(0, 2, 144) = 1 judge(0) = NOT""");
    }

    private static void judgeRefused() {
        Script.run("25: BAD, -11, -12", """
            judge(-1) = BAD judge(6) = BAD judge(MIN) = BAD judge(MAX) = BAD judge(0) = NOTHING judge(5) = NOTHING body(0) = 0 keep(0, 0) = 1
            judge(0) = KIND row(0, 0, 0) = 1 judge(0) = KIND row(0, 2, 3) = 1 judge(0) = KIND row(0, 3, 3) = 1 judge(0) = KIND
            row(0, 4, 3) = 1 judge(0) = KIND row(5, 1, 3) = 1 judge(5) = 0 row(5, 1, 0) = 1 judge(5) = NOT""");
    }

    private static void morning() {
        Script.run("26: a THING that is there; STATE: one is not over, behind BAD", """
            morning(0, 5) = BAD thing(0, 40) = 0 morning(-1, 5) = BAD morning(1, 5) = BAD morning(MIN, 5) = BAD morning(MAX, 5) = BAD
            goOn() = STATE morning(0, 5) goOn() = 0 morning(0, 5) morning(0, 5) = STATE morning(0, 6) = STATE morning(1, 5) = BAD
            morning(-1, 5) = BAD goBack(0) = 0 morning(0, 5) morning(0, 5) = STATE""");
        for (int first : new int[] {0, 71, 72, 143}) {
            for (int second : new int[] {0, 2, 3, 9, 10, 11}) {
                boolean open = first < 72;
                Script.run("26: draws $1 and $2 of FORGOTTEN 72, TRACE 10, STALE 3", "thing(72, 40) = 0 morning(0, $3) = $4 goOn() = $5",
                    first, second, seed(first, second), second < (open ? 3 : 10) ? 1 : 0, open ? 40 : 0);
                Script.run("26: draws $1 and $2 at the ends", """
                    thing(0, 40) = 0 mend(0, 1, 12) morning(0, $3) = 1 goOn() = 0 mend(0, 1, 0) morning(0, $3) = 0 goOn() = 0
                    mend(0, 0, 144) mend(0, 2, 12) morning(0, $3) = 1 goOn() = 40 mend(0, 2, 0) morning(0, $3) = 0 goOn() = 40""",
                    first, second, seed(first, second));
            }
        }
        for (int seed : new int[] {Integer.MIN_VALUE, Integer.MAX_VALUE, -1, 0, 1}) {
            long z = next(seed);
            boolean open = (z >> 8) % 144 < 72;
            Script.run("26: any int is a SEED: $1", "thing(72, 40) = 0 morning(0, $1) = $2 goOn() = $3",
                seed, (next(z) >> 8) % 12 < (open ? 3 : 10) ? 1 : 0, open ? 40 : 0);
        }
    }

    private static void wentOrNot() {
        Script.run("27: y 0 .. 99; STATE behind BAD", """
            goBack(0) = STATE goBack(99) = STATE goBack(-1) = BAD goBack(100) = BAD goBack(MIN) = BAD goBack(MAX) = BAD
            thing(144, 40) = 0 morning(0, 5) goBack(-1) = BAD goBack(100) = BAD goBack(MAX) = BAD led(0) = 0 goBack(99) = 198
            goBack(0) = STATE goOn() = STATE led(0) = 1 morning(0, 5) goBack(0) = 0 led(0) = 2 led(3) = 198
            mend(0, 6, 99) = 1 morning(0, 5) goBack(99) = 19602 mend(0, 6, 0) = 99 morning(0, 5) goBack(99) = 0""");
        Script.run("28: HARM if it is open, else nothing; STATE: no MORNING", """
            goOn() = STATE thing(144, 999) = 0 thing(0, 999) = 1 goOn() = STATE morning(0, 5) goOn() = 999 goOn() = STATE goBack(0) = STATE
            morning(1, 5) goOn() = 0 goOn() = STATE mend(0, 3, 0) = 999 morning(0, 5) goOn() = 0 led(0) = 3""");
        Script.run("26, 28: it is drawn in the MORNING whether it was done", """
            thing(144, 40) = 0 morning(0, 5) mend(0, 0, 0) = 144 goOn() = 40 morning(0, 5) mend(0, 0, 144) = 0 goOn() = 0
            morning(0, 5) mend(0, 0, 0) = 144 goBack(3) = 6 of(0, 11) = 0""");
    }

    private static void used() {
        Script script = Script.run("26: a MARKED one is USED 1 more, 12 at most", "thing(0, 40) = 0 thing(0, 40) = 1 mend(0, 4, 1) = 0");
        for (int i = 1; i <= 14; i++) {
            script.and("morning(0, 5) = 1 of(0, 10) = $1 goOn() = 0 of(0, 10) = $1 of(1, 10) = 0", Math.min(i, 12));
        }
        script.and("morning(1, 5) of(1, 10) = 0 of(0, 10) = 12 goOn() mend(0, 4, 0) = 1 morning(0, 5) of(0, 10) = 12 goOn()");
        Script.run("26: one not MARKED is not USED", "thing(0, 40) = 0 morning(0, 5) of(0, 10) = 0 goBack(0) of(0, 10) = 0");
        Script.run("26: a refused MORNING is no use", "thing(0, 40) = 0 mend(0, 4, 1) = 0 morning(0, 5) = 1 morning(0, 5) = STATE of(0, 10) = 1");
        Script.run("26: USED behind that: it does not count for the MORNING itself", """
            thing(144, 40) = 0 mend(0, 4, 1) = 0 morning(0, $1) = 0 goOn() = 40 morning(0, $1) = 1 goOn() = 40 of(0, 10) = 2
            morning(0, $2) = 0 goOn() of(0, 10) = 3 morning(0, $2) = 1""", seed(3, 0), seed(3, 2));
    }

    private static void vain() {
        Script.run("27: VAIN is 1 more, if it was shut", """
            thing(0, 40) = 0 thing(144, 40) = 1 morning(1, 5) goBack(1) = 2 of(0, 11) = 0 led(2) = 0 morning(0, 5) goBack(1) = 2
            of(0, 11) = 1 led(2) = 1 morning(0, 5) goOn() = 0 of(0, 11) = 1 morning(1, 5) goOn() = 40 of(0, 11) = 1 led(1) = 2""");
        Script script = Script.run("VAIN 0 .. 99", "thing(0, 40) = 0");
        for (int i = 1; i <= 101; i++) {
            script.and("morning(0, 5) goBack(0) = 0 of(0, 11) = $1", Math.min(i, 99));
        }
        script.and("led(0) = 101 led(1) = 101 law(\"v=99\") = 1 gone(1, 0) = 1");
    }

    private static void daysOff() {
        Script.run("29: nothing USED: none becomes less", "dayOff() = 0 thing(0, 40) = 0 dayOff() = 0 mend(0, 4, 1) = 0 dayOff() = 0 of(0, 10) = 0");
        Script.run("29: those not used since the last one", """
            thing(0, 40) = 0 thing(0, 40) = 1 mend(0, 4, 1) = 0 mend(1, 4, 1) = 0 morning(0, 5) goOn() morning(0, 5) goOn() morning(1, 5) goOn()
            dayOff() = 0 of(0, 10) = 2 of(1, 10) = 1 morning(1, 5) goOn() dayOff() = 1 of(0, 10) = 1 of(1, 10) = 2 dayOff() = 2
            of(0, 10) = 0 of(1, 10) = 1 dayOff() = 1 of(1, 10) = 0 dayOff() = 0 of(0, 10) = 0""");
        Script full = Script.run("29: USED 12 times and once more: used since, all the same", "thing(0, 40) = 0 mend(0, 4, 1) = 0");
        for (int i = 0; i < 12; i++) {
            full.and("morning(0, 5) = 1 goOn() = 0");
        }
        full.and("of(0, 10) = 12 dayOff() = 0 of(0, 10) = 12 morning(0, 5) = 1 goOn() of(0, 10) = 12 dayOff() = 0 of(0, 10) = 12");
        for (int i = 11; i >= 0; i--) {
            full.and("dayOff() = 1 of(0, 10) = $1", i);
        }
        full.and("dayOff() = 0 of(0, 10) = 0 count(0) = 1");
        Script.run("29: a MORNING that is not over stays", "thing(144, 40) = 0 morning(0, 5) dayOff() = 0 morning(0, 5) = STATE goOn() = 40");
        Script six = Script.run("29: all six", "");
        for (int i = 0; i < 6; i++) {
            six.and("thing(0, 40) = $1 mend($1, 4, 1) = 0 morning($1, 5) = 1 goOn() = 0", i);
        }
        six.and("dayOff() = 0 dayOff() = 6 of(5, 10) = 0 of(0, 10) = 0 dayOff() = 0");
    }

    private static void led() {
        Script.run("30: what 0 .. 4", "led(-1) = BAD led(5) = BAD led(MIN) = BAD led(MAX) = BAD led(0) = 0 led(4) = 0");
        Script.run("30: mornings, back, in vain, costs, the dearest", """
            thing(0, 40) = 0 thing(144, 50) = 1 morning(1, 5) goOn() = 50 led(0) = 1 led(1) = 0 led(2) = 0 led(3) = 50 led(4) = 50
            morning(0, 5) goBack(20) = 40 led(0) = 2 led(1) = 1 led(2) = 1 led(3) = 90 led(4) = 50 morning(1, 5) goBack(30) = 60
            led(0) = 3 led(1) = 2 led(2) = 1 led(3) = 150 led(4) = 60 morning(0, 5) goOn() = 0 led(0) = 4 led(1) = 2 led(2) = 1
            led(3) = 150 led(4) = 60 morning(0, 5) goBack(0) = 0 led(0) = 5 led(1) = 3 led(2) = 2 led(3) = 150 led(4) = 60""");
        Script.run("30: what costs nothing at all", "thing(0, 0) = 0 morning(0, 5) goOn() = 0 led(0) = 1 led(3) = 0 led(4) = 0");
    }

    private static void images() {
        Script.run("32: STATE: there is none", "back() = STATE thing(0, 1) = 0 back() = STATE image() = 0 back() = 0 back() = 0");
        Script.run("31: mornings; a later image counts", """
            thing(0, 1) = 0 image() = 0 morning(0, 5) goBack(1) = 2 image() = 1 morning(0, 5) goBack(1) back() = 1 led(0) = 1 led(3) = 2
            back() = 1 morning(0, 5) goOn() = 0 image() = 2 back() = 2 led(1) = 1""");
        Script.run("31: what AN IMAGE does not keep stays as it is", """
            thing(6, 100) = 0 image() = 0 mend(0, 0, 9) = 6 mend(0, 6, 3) = 1 mend(0, 4, 1) = 0 mend(12, 9, 7) = 9 say("o") body(3) = 0
            keep(2, 0) = 1 fill(1, 0, 4, 5) act(0, 0, 1) thing(7, 1) = 1 undo() = 3 back() = 0 of(0, 0) = 9 of(0, 6) = 3 of(0, 4) = 1
            of(12, 9) = 9 count(0) = 2 count(2) = 1 count(3) = 3 count(4) = 1 count(5) = 1 trace(0) = 1 taken(2, 2) = 3
            element(1, 1) = 5 redo() = 0 of(21, 9) = 7 law() = 1""");
    }

    private static void laidBack() {
        Script.run("32: VAIN, RUNG, what LED tells", """
            thing(0, 40) = 0 morning(0, 5) goBack(1) rung() = 1 image() = 1 morning(0, 5) goBack(9) = 18 rung() = 2 rung() = 3 back() = 1
            of(0, 11) = 1 of(0, 12) = 1 led(0) = 1 led(1) = 1 led(2) = 1 led(3) = 2 led(4) = 2 rung() = 2""");
        Script.run("32: USED, and which since a day off", """
            thing(0, 40) = 0 thing(0, 40) = 1 mend(0, 4, 1) = 0 mend(1, 4, 1) = 0 morning(0, 5) goOn() morning(1, 5) goOn() dayOff() = 0
            morning(0, 5) goOn() image() = 3 dayOff() = 1 dayOff() = 1 morning(1, 5) goOn() back() = 3 of(0, 10) = 2 of(1, 10) = 1
            dayOff() = 1 of(0, 10) = 2 of(1, 10) = 0 dayOff() = 1 of(0, 10) = 1 back() = 3 of(0, 10) = 2 of(1, 10) = 1""");
        Script.run("32: USED of THINGS that came since 0, and not used since", """
            thing(0, 40) = 0 mend(0, 4, 1) = 0 image() = 0 thing(0, 40) = 1 mend(1, 4, 1) = 0 morning(1, 5) goOn() morning(1, 5) goOn()
            of(1, 10) = 2 back() = 0 of(1, 10) = 0 count(0) = 2 of(1, 4) = 1 dayOff() = 0 morning(1, 5) goOn() of(1, 10) = 1""");
        Script.run("32: the MORNING, whether it was done, too", """
            thing(144, 40) = 0 thing(0, 30) = 1 morning(0, 5) image() = 0 goBack(1) = 2 morning(1, 5) goOn() = 0 morning(1, 5) back() = 0
            morning(0, 5) = STATE goOn() = 40 led(0) = 1 back() = 0 goBack(2) = 4 of(0, 11) = 0 goOn() = STATE back() = 0 goOn() = 40""");
        Script.run("32: no MORNING", "thing(144, 40) = 0 image() = 0 morning(0, 5) back() = 0 goOn() = STATE goBack(0) = STATE morning(0, 5) goOn() = 40");
    }

    private static void changes() {
        int[] most = {144, 12, 12, 999, 1, 5, 99, 99, 99, 99};
        int[] first = {6, 10, 3, 100, 0, 0, 1, 0, 5, 9};
        for (int what = 0; what <= 9; what++) {
            Script.run("33, 34: what $2 can be UNDONE, and DONE AGAIN", """
                thing(6, 100) = 0 mend($1, $2, $3) = $3 count(3) = 0 undo() = STATE mend($1, $2, $4) = $3 count(3) = 1 mend($1, $2, $4) = $4
                count(3) = 1 undo() = 0 of($1, $2) = $3 count(3) = 0 undo() = STATE of($1, $2) = $3 redo() = 0 of($1, $2) = $4 redo() = STATE
                of($1, $2) = $4 count(3) = 1 mend($1, $2, $5) = BAD count(3) = 1""",
                what == 9 ? 53 : 0, what, first[what], most[what], most[what] + 1);
        }
        Script.run("33: THINGS that come are none", "thing(6, 100) = 0 fill(0, 0, 1, 2, 3) things(0, 0, 1) = 1 count(3) = 0 undo() = STATE");
        Script.run("33: nor is what is not told by mend()", """
            thing(0, 1) = 0 mend(0, 4, 1) = 0 rung() morning(0, 5) goBack(0) dayOff() image() say("o") law() body(0) = 0 keep(0, 0) = 1 row(1, 0, 2) = 1
            count(3) = 1 undo() = 0 of(0, 4) = 0 of(0, 10) = 1 of(0, 11) = 1 of(0, 12) = 1 undo() = STATE redo() = 0""");
        Script.run("33: the latest first", """
            mend(0, 6, 2) = 1 mend(0, 7, 3) = 0 mend(0, 6, 4) = 2 mend(0, 8, 6) = 5 undo() = 3 of(0, 8) = 5 of(0, 6) = 4 undo() = 2 of(0, 6) = 2
            of(0, 7) = 3 undo() = 1 of(0, 7) = 0 undo() = 0 of(0, 6) = 1 undo() = STATE""");
    }

    private static void fortyChanges() {
        Script script = Script.run("33: 40 at most are kept", "");
        for (int i = 1; i <= 42; i++) {
            script.and("mend(0, 8, $1) count(3) = $2", 10 + i, Math.min(i, 40));
        }
        for (int i = 39; i >= 0; i--) {
            script.and("undo() = $1 of(0, 8) = $2 count(3) = $1", i, 12 + i);
        }
        script.and("undo() = STATE of(0, 8) = 12 count(3) = 0");
        for (int i = 39; i >= 0; i--) {
            script.and("redo() = $1 of(0, 8) = $2", i, 52 - i);
        }
        script.and("redo() = STATE of(0, 8) = 52 count(3) = 40");
        Script forty = Script.run("33: just 40", "");
        for (int i = 1; i <= 40; i++) {
            forty.and("mend(0, 8, $1)", 10 + i);
        }
        for (int i = 39; i >= 0; i--) {
            forty.and("undo() = $1", i);
        }
        forty.and("of(0, 8) = 5 undo() = STATE");
        Script one = Script.run("33: 41: the first one stays", "mend(0, 7, 1) = 0");
        for (int i = 1; i <= 40; i++) {
            one.and("mend(0, 8, $1)", 10 + i);
        }
        for (int i = 39; i >= 0; i--) {
            one.and("undo() = $1", i);
        }
        one.and("of(0, 8) = 5 undo() = STATE of(0, 7) = 1");
    }

    private static void doneAgain() {
        Script.run("34: as long as no other came behind", """
            mend(0, 6, 2) = 1 mend(0, 7, 3) = 0 undo() = 1 undo() = 0 redo() = 1 of(0, 6) = 2 of(0, 7) = 0 mend(0, 8, 6) = 5 redo() = STATE
            of(0, 7) = 0 count(3) = 2 undo() = 1 redo() = 0 of(0, 8) = 6 undo() = 1 undo() = 0 mend(0, 6, 9) = 1 redo() = STATE count(3) = 1""");
        Script.run("34: telling the same number is none, nor is what is refused", """
            mend(0, 6, 2) = 1 mend(0, 7, 3) = 0 undo() = 1 undo() = 0 mend(0, 6, 1) = 1 mend(0, 6, 100) = BAD mend(1, 6, 5) = BAD mend(0, 0, 5) = BAD
            thing(6, 100) = 0 redo() = 1 mend(0, 6, 2) = 2 redo() = 0 of(0, 7) = 3""");
        Script.run("34: none", "redo() = STATE mend(0, 6, 2) = 1 redo() = STATE undo() = 0 redo() = 0 redo() = STATE undo() = 0 undo() = STATE redo() = 0");
        Script.run("34: no other call is a CHANGE", """
            fill(0, 0, 6, 10, 3) fill(1, 0, 0, 1) mend(0, 6, 2) = 1 mend(0, 7, 3) = 0 undo() = 1 undo() = 0 thing(6, 100) = 0 things(0, 0, 1) = 1
            law("1") = 1 law("+") = -100 rung() = 1 morning(0, 5) goBack(3) morning(1, 5) goOn() dayOff() image() = 2 back() = 2
            body(7) = 0 act(0, 3, 5) keep(2, 0) = 1 row(0, 1, 3) = 1 row(3, 1, 3) = 1 put(0, 1, 7) = 1 shift(0, 1, 3, 0, 2) = 2 count(3) = 0
            undo() = STATE redo() = 1 redo() = 0 of(0, 6) = 2 of(0, 7) = 3 count(3) = 2""");
        Script full = Script.run("34: behind 40 that were UNDONE in part", "");
        for (int i = 1; i <= 40; i++) {
            full.and("mend(0, 8, $1)", 10 + i);
        }
        full.and("undo() = 39 undo() = 38 mend(0, 7, 1) = 0 count(3) = 39 redo() = STATE mend(0, 7, 2) = 1 count(3) = 40 mend(0, 7, 3) = 2 count(3) = 40 undo() = 39 "
            + "undo() = 38 undo() = 37 of(0, 7) = 0 of(0, 8) = 48 redo() = 2 redo() = 1 redo() = 0 of(0, 7) = 3");
    }
}
