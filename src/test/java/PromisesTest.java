/** For each promise: ordinary calls, the edges that the document names, wrong ones. */
public final class PromisesTest {
    private static final int BAD = -1, NOT = -2, FULL = -3, STATE = -5;
    private static final int NOTHING = -11, KIND = -12, PLACE = -13, SIZE = -14;
    private static final long BAD_LONG = Long.MIN_VALUE;
    private static final int MAX = Integer.MAX_VALUE, MIN = Integer.MIN_VALUE;
    private static int promise = 0;
    private static int row = 0;

    private PromisesTest() {
    }

    public static void main(String[] args) {
        thingsTold();
        theLaw();
        goingBack();
        lastOfSix();
        several();
        neighbour();
        waysAndLists();
        drawnAndGravel();
        inDeed();
        changes();
        goers();
        shelves();
        Due.end("PromisesTest");
    }

    private static void promise(int number) {
        promise = number;
        row = 0;
    }

    private static void due(long want, long got) {
        row++;
        Due.due("promise " + promise + ", row " + row, got, want);
    }

    private static void dueFraction(long above, long below, long gotAbove, long gotBelow) {
        due(above, gotAbove);
        due(below, gotBelow);
    }

    private static void fill(HasShut x, int shelf, int sort, long... elements) {
        x.row(shelf, sort, elements.length);
        for (int i = 0; i < elements.length; i++) {
            x.put(shelf, i, elements[i]);
        }
    }

    private static int lawOf(HasShut x, String text) {
        for (int i = 0; i < text.length(); i++) {
            x.feed(text.charAt(i));
        }
        return x.law();
    }

    private static void thingsTold() {
        promise(1);
        HasShut x = new HasShut();
        for (int what = 0; what <= 5; what++) {
            due(0, x.count(what));
        }
        due(1, x.of(0, 6));
        due(0, x.of(0, 7));
        due(5, x.of(0, 8));
        due(0, x.of(0, 11));
        due(0, x.of(0, 12));
        for (int shelf = 0; shelf <= 5; shelf++) {
            due(NOTHING, x.put(shelf, 0, 0));
        }
        for (int what = 0; what <= 4; what++) {
            due(0, x.led(what));
        }
        due(BAD, x.trace(0));
        due(STATE, x.back());

        promise(2);
        due(BAD, x.thing(-1, 0));
        due(BAD, x.thing(145, 0));
        due(BAD, x.thing(0, -1));
        due(BAD, x.thing(0, 1000));
        due(0, x.count(0));
        due(0, x.thing(144, 0));
        due(1, x.thing(0, 999));
        due(144, x.of(0, 0));
        due(999, x.of(1, 3));
        due(10, x.of(1, 1));
        due(3, x.of(1, 2));
        due(0, x.of(1, 4));
        due(0, x.of(1, 5));
        due(0, x.of(1, 10));
        for (int i = 2; i < 6; i++) {
            due(i, x.thing(6, 100));
        }
        due(FULL, x.thing(6, 100));
        due(BAD, x.thing(145, 100));
        due(6, x.count(0));

        promise(3);
        x = new HasShut();
        due(0, x.things(0, 0, 1));
        due(0, x.things(0, MAX, 6));
        due(BAD, x.things(6, 0, 1));
        due(BAD, x.things(-1, 0, 1));
        // A place below 0 is no wrong number: the row is missing there.
        due(0, x.things(0, -1, 1));
        due(0, x.things(0, MIN, 6));
        due(BAD, x.things(0, 0, 0));
        due(BAD, x.things(0, 0, 7));
        due(BAD, x.things(0, -1, 0));
        due(BAD, x.things(0, -1, 7));
        due(BAD, x.things(6, -1, 1));
        fill(x, 0, 0, 99, 127, 12, 0, 1, 2, 3, 4, 5);
        due(2, x.things(0, 1, 6));
        due(127, x.of(0, 0));
        due(12, x.of(0, 1));
        due(0, x.of(0, 2));
        due(100, x.of(0, 3));
        due(3, x.of(1, 2));
        due(0, x.things(0, 9, 1));
        due(0, x.things(0, MAX, 1));
        due(0, x.things(0, -1, 1));
        due(0, x.things(0, -3, 6));
        due(0, x.things(0, MIN, 6));
        due(2, x.count(0));
        fill(x, 1, 0, 5, 12, 12, 5, 13, 0, 5, 1, 1);
        due(1, x.things(1, 0, 3));
        due(0, x.things(1, 3, 3));
        fill(x, 1, 0, 5, 1, 13, 128, 1, 1);
        due(0, x.things(1, 0, 1));
        due(0, x.things(1, 3, 1));
        fill(x, 1, 0, 0, 0, 0, 1, 1, 1, 2, 2, 2, 3, 3, 3, 4, 4, 4);
        due(1, x.things(1, 12, 2));
        due(1, x.things(1, 6, 1));
        due(1, x.things(1, 0, 6));
        due(0, x.things(1, 0, 6));
        due(6, x.count(0));
        due(4, x.of(3, 0));
        due(2, x.of(4, 0));
        x.row(2, 1, 9);
        due(KIND, x.things(2, 0, 1));
        due(KIND, x.things(2, -1, 1));
        x.body(0);
        x.keep(2, 0);
        due(KIND, x.things(2, 0, 1));
        due(KIND, x.things(2, -1, 1));

        promise(4);
        x = new HasShut();
        due(BAD, x.mend(0, 0, 1));
        x.thing(6, 100);
        int[] first = {6, 10, 3, 100, 0, 0};
        int[] most = {144, 12, 12, 999, 1, 5};
        for (int what = 0; what <= 5; what++) {
            due(BAD, x.mend(0, what, -1));
            due(BAD, x.mend(0, what, most[what] + 1));
            due(first[what], x.mend(0, what, most[what]));
            due(most[what], x.mend(0, what, 0));
            due(0, x.of(0, what));
            due(BAD, x.mend(1, what, 0));
            due(BAD, x.mend(-1, what, 0));
        }
        int[] prices = {1, 0, 5};
        for (int what = 6; what <= 8; what++) {
            due(prices[what - 6], x.mend(0, what, 99));
            due(BAD, x.mend(0, what, 100));
            due(BAD, x.mend(0, what, -1));
            due(BAD, x.mend(1, what, 0));
            due(99, x.of(0, what));
        }
        for (int one = 0; one <= 5; one++) {
            for (int other = 0; other <= 5; other++) {
                due(one == other ? BAD : 9, x.mend(10 * one + other, 9, 9));
            }
        }
        due(9, x.mend(52, 9, 99));
        due(99, x.mend(25, 9, 0));
        due(BAD, x.mend(16, 9, 0));
        due(BAD, x.mend(61, 9, 0));
        due(BAD, x.mend(-1, 9, 0));
        due(BAD, x.mend(1, 9, -1));
        due(BAD, x.mend(1, 9, 100));
        due(BAD, x.mend(0, 10, 0));
        due(BAD, x.mend(0, -1, 0));
        due(BAD, x.mend(0, MAX, 0));

        // Each two ROOMS have yards of their own.
        HasShut rooms = new HasShut();
        for (int one = 0; one <= 5; one++) {
            for (int other = one + 1; other <= 5; other++) {
                rooms.mend(10 * other + one, 9, 10 * one + other);
            }
        }
        for (int one = 0; one <= 5; one++) {
            for (int other = one + 1; other <= 5; other++) {
                due(10 * one + other, rooms.of(10 * one + other, 9));
                due(10 * one + other, rooms.shortest(10 * other + one, 0, -1));
            }
        }

        promise(5);
        due(0, x.of(25, 9));
        due(0, x.of(52, 9));
        due(9, x.of(51, 9));
        due(BAD, x.of(55, 9));
        due(BAD, x.of(1, 0));
        due(BAD, x.of(1, 6));
        due(BAD, x.of(1, 10));
        due(BAD, x.of(-1, 10));
        due(BAD, x.of(1, 11));
        due(BAD, x.of(1, 12));
        due(BAD, x.of(0, 13));
        due(BAD, x.of(0, -1));
        due(0, x.of(0, 10));
        x.rung();
        due(1, x.of(0, 12));

        promise(8);
        x = new HasShut();
        due(BAD_LONG, x.open(0, 0, 0));
        x.thing(6, 100);
        dueFraction(9, 55, x.open(0, 0, 0), x.open(0, 0, 1));
        dueFraction(3, 233, x.open(0, 1, 0), x.open(0, 1, 1));
        dueFraction(1, 24, x.open(0, 2, 0), x.open(0, 2, 1));
        due(BAD_LONG, x.open(0, 3, 0));
        due(BAD_LONG, x.open(0, -1, 0));
        due(BAD_LONG, x.open(0, 0, 2));
        due(BAD_LONG, x.open(0, 0, -1));
        due(BAD_LONG, x.open(-1, 0, 0));
        due(BAD_LONG, x.open(1, 0, 0));
        x.mend(0, 0, 0);
        dueFraction(0, 1, x.open(0, 1, 0), x.open(0, 1, 1));
        x.mend(0, 1, 0);
        due(NOT, x.open(0, 1, 0));
        due(NOT, x.open(0, 1, 1));
        dueFraction(0, 1, x.open(0, 2, 0), x.open(0, 2, 1));
        x.mend(0, 4, 1);
        // MARKED: who did it remembers it for sure; who did not, as often as it was USED: never.
        dueFraction(0, 1, x.open(0, 1, 0), x.open(0, 1, 1));
        due(NOT, x.open(0, 0, 0));
        x.mend(0, 0, 6);
        dueFraction(1, 1, x.open(0, 0, 0), x.open(0, 0, 1));
        x.morning(0, 1);
        // USED once: 6 * 1 to 138 * 12.
        dueFraction(1, 277, x.open(0, 1, 0), x.open(0, 1, 1));
        // It can be so, however seldom: 0 to 1, and 1 to 1, of all that can be.
        x = new HasShut();
        x.thing(143, 100);
        x.mend(0, 1, 1);
        x.mend(0, 2, 0);
        dueFraction(0, 1, x.open(0, 1, 0), x.open(0, 1, 1));
        x.mend(0, 0, 1);
        x.mend(0, 1, 12);
        x.mend(0, 2, 11);
        dueFraction(1, 1, x.open(0, 0, 0), x.open(0, 0, 1));
    }

    private static HasShut even() {
        HasShut x = new HasShut();
        x.thing(72, 50);
        x.mend(0, 2, 10);
        x.mend(0, 6, 2);
        return x;
    }

    private static void theLaw() {
        promise(6);
        HasShut x = new HasShut();
        due(BAD, x.feed(-1));
        due(BAD, x.feed(256));
        for (int i = 1; i <= 120; i++) {
            due(i, x.feed(i == 1 ? 255 : 0));
        }
        due(FULL, x.feed(0));
        due(BAD, x.feed(256));
        due(120, x.count(2));

        promise(7);
        due(-100, x.law());
        due(0, x.count(2));
        due(-100, x.law());
        String[] texts = {"1", "0012", "o", "!!!!!!1", "((((((1))))))", "1--1", "1<2", "1?2", "1?2;3", "-(-(-1))",
            "o*h/y%p+v-n<1&2|3", "(1|2)&3", "1;2;3", "o?h?", "12345", "1 ", "", "x", "oo", "o1", "1o", "()", "(1",
            "1)", "1<2<3", "(1<2)<3", "1;", ";1", "1??2", "(1?2)", "!!!!!!!1", "((((((-1", "-!-!-!1", "-!-!-!-1",
            "1+", "1+*2", "1&&2", "1||2", "a", "1?2?3", "12345?", "(1;2)", "1?2;;", "!(!(!(1)))", "!(!(!(!1)))",
            "!1+!1+!1+!1+!1+!1+!1", "((1)+(1))*((((((1", "1 +2", "12=", "1==1", "1>=1", "=1", "+1", "-+1", "0000", "00000",
            "1?((((((1))))))", "1?(((((((1)))))))", "0?1;((((((1))))))", "1?2;(((((((1)))))))"};
        int[] faults = {-1, -1, -1, -1, -1, -1, -1, -1, -1, -1,
            -1, -1, -1, 3, 4, 1, 0, 0, 1, 1, 1, 1, 2,
            1, 3, -1, 2, 0, 2, 2, 6, 6, -1, 6,
            2, 2, 2, 2, 0, 3, 4, 2, 4, -1, 6,
            -1, 17, 1, 3, 2, 2, 0, 0, 1, -1, 4,
            -1, 8, -1, 10};
        for (int i = 0; i < texts.length; i++) {
            x = new HasShut();
            due(faults[i] < 0 ? 1 : -100 - faults[i], lawOf(x, texts[i]));
            due(0, x.count(2));
        }
        x = new HasShut();
        String longest = "1" + "+1".repeat(59);
        due(1, lawOf(x, "1" + longest));
        due(-220, lawOf(x, longest + "+"));
        due(-219, lawOf(x, "1" + longest.substring(0, 118) + "x"));

        // THE LAW by its values: in gone() of one THING with OPEN 72, HARM 50, 3 yards, PRICE 2, no VAIN.
        x = even();
        // Without a text: 72 * 50 = 3600 against 288 * y * 2.
        due(1, x.gone(65, 6));
        due(0, x.gone(65, 7));
        String[] so = {"o=72", "h=50", "y=3", "p=2", "v=0", "n=1", "1", "0=0", "5&7", "0|9", "(5|0)=1", "(5&7)=1",
            "!0=1", "(!7)=0", "-3<2", "7/2=3", "-7/2=-3", "-7%3=-1", "7/0=0", "7%0=0", "!(7%0)", "2*3+4=10",
            "2+3*4=14", "10-3-2=5", "24/4/2=3", "1-1+1", "0?1;1", "1?1;0", "0?0;0?0;2", "1?2", "3>2", "1|0&0",
            "0=1|1", "9999*9999*9999<0", "2*-3=-6", "1+1=2&2=1+1", "0-5", "5%3*2=4", "!0+!0=2", "y*p=6", "-!1=0"};
        for (int i = 0; i < so.length; i++) {
            x = even();
            due(1, lawOf(x, so[i]));
            due(1, x.gone(65, 3));
        }
        String[] not = {"0", "o<72", "h>50", "!7", "1?0;1", "0?1", "0?1;0?1", "(1|0)-1", "1&0", "0|0", "2<1",
            "7/8", "0?1;0;1", "1-1", "1?o-72;1", "3<3", "3>3"};
        for (int i = 0; i < not.length; i++) {
            x = even();
            due(1, lawOf(x, not[i]));
            due(0, x.gone(65, 3));
        }
        // What is no text leaves THE LAW as it was.
        due(-103, lawOf(x, "1=1=1"));
        due(0, x.gone(65, 3));
        due(-100, lawOf(x, "x1"));
        due(0, x.gone(65, 3));
        due(-100, x.law());
        due(0, x.gone(65, 3));
        // What comes to THE TAPE is THE LAW only by law().
        x.feed('1');
        due(0, x.gone(65, 3));
        due(1, x.law());
        due(1, x.gone(65, 3));
        // Ints that wrap: 2 to the 31st, negated, is itself; divided by -1 too.
        String smallest = "(2048*1024*1024)";
        due(1, lawOf(x, smallest + "<0&" + smallest + "=-" + smallest + "&" + smallest + "/-1=" + smallest + "&"
                + smallest + "%-1=0"));
        due(1, x.gone(65, 3));
    }

    private static void goingBack() {
        HasShut x = new HasShut();
        promise(9);
        due(BAD, x.pays(0, 0));
        x.thing(72, 40);
        // Without memory: 20 on the mean, going costs twice the yards.
        due(1, x.pays(2, 9));
        due(0, x.pays(2, 10));
        due(0, x.pays(2, 99));
        due(BAD, x.pays(2, 100));
        due(BAD, x.pays(2, -1));
        due(BAD, x.pays(3, 0));
        due(BAD, x.pays(-1, 0));
        due(BAD, x.pays(12, 0));
        due(BAD, x.pays(MIN, 0));
        x.mend(0, 6, 2);
        due(1, x.pays(2, 4));
        due(0, x.pays(2, 5));
        x.mend(0, 0, 0);
        x.mend(0, 1, 12);
        due(NOT, x.pays(0, 0));
        due(BAD, x.pays(0, 100));
        due(0, x.pays(1, 0));

        x.thing(144, 500);
        due(1, x.pays(12, 99));
        due(1, x.pays(10, 99));

        promise(10);
        x = new HasShut();
        x.thing(72, 40);
        dueFraction(20, 1, x.worth(2, 0, 0), x.worth(2, 0, 1));
        dueFraction(-178, 1, x.worth(2, 99, 0), x.worth(2, 99, 1));
        dueFraction(0, 1, x.worth(2, 10, 0), x.worth(2, 10, 1));
        // REMEMBERED: 3/13 of 40, less 2.
        dueFraction(94, 13, x.worth(1, 1, 0), x.worth(1, 1, 1));
        due(BAD_LONG, x.worth(2, 0, 2));
        due(BAD_LONG, x.worth(2, 0, -1));
        due(BAD_LONG, x.worth(2, 100, 0));
        due(BAD_LONG, x.worth(2, -1, 0));
        due(BAD_LONG, x.worth(3, 0, 0));
        due(BAD_LONG, x.worth(10, 0, 0));
        x.thing(36, 60);
        dueFraction(11, 1, x.worth(12, 2, 0), x.worth(12, 2, 1));
        dueFraction(60, 11, x.worth(11, 0, 0), x.worth(11, 0, 1));
        x.mend(0, 0, 144);
        dueFraction(22, 1, x.worth(1, 9, 0), x.worth(1, 9, 1));
        x.mend(0, 2, 0);
        due(NOT, x.worth(1, 0, 0));
        due(NOT, x.worth(1, 0, 1));
        due(BAD_LONG, x.worth(1, 0, 2));

        promise(11);
        x = new HasShut();
        x.thing(72, 40);
        due(9, x.howFar(2));
        x.mend(0, 3, 41);
        due(10, x.howFar(2));
        x.mend(0, 3, 1);
        due(0, x.howFar(2));
        x.mend(0, 3, 0);
        due(NOT, x.howFar(2));
        x.mend(0, 3, 999);
        due(99, x.howFar(2));
        x.mend(0, 6, 0);
        x.mend(0, 3, 1);
        due(99, x.howFar(1));
        due(BAD, x.howFar(3));
        due(BAD, x.howFar(10));
        x.thing(36, 0);
        due(NOT, x.howFar(12));
        due(NOT, x.howFar(10));
        x.mend(1, 3, 4);
        x.mend(0, 6, 1);
        due(0, x.howFar(12));
        // Not REMEMBERED: 9/15 of 4, 2.4.
        due(1, x.howFar(10));
        due(BAD, x.howFar(-1));
        x.mend(0, 0, 144);
        x.mend(0, 2, 12);
        due(NOT, x.howFar(0));
    }

    /** The last of six THINGS, all unlike, where a THING comes with another number in one. */
    private static void lastOfSix() {
        HasShut x = new HasShut();
        for (int i = 0; i < 6; i++) {
            x.thing(24 * (i + 1), 100 * (6 - i));
        }
        x.mend(4, 0, 36);
        x.mend(5, 0, 72);
        promise(9);
        due(1, x.pays(52, 24));
        due(0, x.pays(52, 25));
        // REMEMBERED or not: 3/13 and 9/11 of 100.
        due(1, x.pays(51, 11));
        due(0, x.pays(51, 12));
        due(1, x.pays(50, 40));
        due(0, x.pays(50, 41));
        promise(10);
        dueFraction(50, 1, x.worth(52, 0, 0), x.worth(52, 0, 1));
        dueFraction(300, 13, x.worth(51, 0, 0), x.worth(51, 0, 1));
        dueFraction(900, 11, x.worth(50, 0, 0), x.worth(50, 0, 1));
        promise(11);
        due(24, x.howFar(52));
        due(11, x.howFar(51));
        due(40, x.howFar(50));
        promise(19);
        dueFraction(1, 2, x.list(512, 0), x.list(512, 1));
        dueFraction(0, 1, x.list(500, 0), x.list(500, 1));
        dueFraction(1, 5, x.list(503, 0), x.list(503, 1));
        promise(20);
        dueFraction(3, 4, x.ever(5, 2, 0), x.ever(5, 2, 1));
        promise(22);
        int open = 0;
        for (int i = 0; i < 60; i++) {
            open += draws(9, 60)[2 * i] < 72 ? 1 : 0;
        }
        due(100 * open, x.drawn(9, 60, 5000, 0));
        due(60 - open, x.drawn(9, 60, 5001, 1));
        due(60 * 198, x.drawn(9, 60, 5991, 0));
    }

    private static void several() {
        promise(12);
        HasShut x = new HasShut();
        dueFraction(0, 1, x.best(0, 99, 0), x.best(0, 99, 1));
        for (int i = 0; i < 5; i++) {
            x.thing(72, 40);
        }
        // Remembered 3/13 of 40 each, else 9/11 of 40.
        due(3, x.best(3, 1, 2));
        dueFraction(2, 1, x.best(3, 1, 0), x.best(3, 1, 1));
        due(0, x.best(195, 99, 2));
        dueFraction(240, 13, x.best(195, 99, 0), x.best(195, 99, 1));
        x.mend(0, 7, 20);
        due(0, x.best(195, 0, 2));
        due(3, x.best(3, 0, 2));
        due(2, x.best(67, 0, 2));
        dueFraction(380, 13, x.best(67, 0, 0), x.best(67, 0, 1));
        x.mend(1, 3, 0);
        x.mend(0, 7, 0);
        due(1, x.best(3, 0, 2));
        due(29, x.best(31 - 2, 0, 2));
        due(BAD_LONG, x.best(31, 0, 2));
        due(BAD_LONG, x.best(32, 0, 2));
        due(BAD_LONG, x.best(64, 0, 2));
        due(BAD_LONG, x.best(64 * 3 + 2, 0, 2));
        due(BAD_LONG, x.best(4096 + 1, 0, 2));
        due(BAD_LONG, x.best(-1, 0, 2));
        due(BAD_LONG, x.best(MAX, 0, 2));
        due(BAD_LONG, x.best(MIN, 0, 2));
        due(BAD_LONG, x.best(1, 100, 2));
        due(BAD_LONG, x.best(1, -1, 2));
        due(BAD_LONG, x.best(1, 0, 3));
        due(BAD_LONG, x.best(1, 0, -1));
        x.mend(2, 1, 12);
        x.mend(2, 2, 12);
        due(NOT, x.best(4, 0, 0));
        due(NOT, x.best(5, 0, 1));
        due(NOT, x.best(5, 0, 2));
        due(4, x.best(64 * 4 + 4, 0, 2));
        // Two alike of which one is looked at: the least bits.
        x = new HasShut();
        x.thing(144, 0);
        x.thing(144, 0);
        due(0, x.best(3, 0, 2));
        // One surely open, one surely shut.
        x.thing(144, 50);
        x.thing(0, 70);
        due(4, x.best(12, 24, 2));
        dueFraction(48, 1, x.best(12, 24, 0), x.best(12, 24, 1));
        due(0, x.best(12, 25, 2));
        dueFraction(50, 1, x.best(12, 25, 0), x.best(12, 25, 1));

        promise(13);
        x = new HasShut();
        due(0, x.gone(0, 0));
        due(0, x.gone(0, 99));
        x.thing(72, 40);
        x.thing(36, 80);
        x.thing(72, 41);
        // o times h just so much as 288 times the yards is not more.
        x.mend(0, 1, 12);
        x.mend(0, 2, 12);
        due(0, x.gone(65, 10));
        due(1, x.gone(65, 9));
        x.mend(0, 3, 41);
        due(1, x.gone(65, 10));
        x.mend(0, 3, 201);
        due(1, x.gone(65, 50));
        due(0, x.gone(65, 51));
        for (int i = 0; i < 4; i++) {
            x.undo();
        }
        // Without a text, by the worst alone: remembered 33 * 40 = 1320, 4 * 288 = 1152, 5 * 288 = 1440.
        due(1, x.gone(65, 4));
        due(0, x.gone(65, 5));
        due(BAD, x.gone(8, 0));
        due(BAD, x.gone(1, 100));
        due(BAD, x.gone(1, -1));
        due(BAD, x.gone(66, 0));
        lawOf(x, "h=41&n=2&o=117");
        due(1, x.gone(5, 0));
        due(0, x.gone(7, 0));
        due(0, x.gone(3, 0));
        // Both 33 * 40: the first one of like ones.
        x.mend(1, 0, 72);
        x.mend(1, 3, 40);
        lawOf(x, "p=9");
        x.mend(0, 6, 9);
        due(1, x.gone(3, 0));
        x.mend(1, 3, 20);
        x.mend(1, 0, 144);
        x.mend(0, 2, 12);
        x.mend(0, 1, 12);
        // OPEN 72 with HARM 40 and OPEN 144 with HARM 20 are alike.
        lawOf(x, "o=72&h=40");
        due(1, x.gone(64 * 3 + 3, 0));
        due(NOT, x.gone(3, 0));
        due(NOT, x.gone(1, 0));
        due(BAD, x.gone(1, 100));
    }

    private static void neighbour() {
        promise(14);
        HasShut x = new HasShut();
        due(0, x.plan(0, 0, 2));
        dueFraction(0, 1, x.plan(0, 99 * 64, 0), x.plan(0, 99 * 64, 1));
        due(BAD_LONG, x.plan(0, 1, 2));
        x.thing(72, 40);
        x.thing(72, 60);
        x.thing(0, 7);
        for (int i = 0; i < 2; i++) {
            x.mend(i, 1, 12);
            x.mend(i, 2, 12);
        }
        // Both REMEMBERED and even: staying costs 50. She sees the first: 5 + half of 40 + half of 30.
        int both = 64 * 3 + 3;
        dueFraction(40, 1, x.plan(both, 20 * 64 + 1, 0), x.plan(both, 20 * 64 + 1, 1));
        // Of like ones the first: going back costs 40, too.
        due(1, x.plan(both, 20 * 64 + 1, 2));
        due(2, x.plan(both, 21 * 64 + 1, 2));
        dueFraction(41, 1, x.plan(both, 21 * 64 + 1, 0), x.plan(both, 21 * 64 + 1, 1));
        due(1, x.plan(both, 19 * 64 + 1, 2));
        x.mend(0, 8, 4);
        due(2, x.plan(both, 20 * 64 + 1, 2));
        dueFraction(39, 1, x.plan(both, 20 * 64 + 1, 0), x.plan(both, 20 * 64 + 1, 1));
        // She sees both: 4 + 3/4 of 40.
        dueFraction(34, 1, x.plan(both, 20 * 64 + 3, 0), x.plan(both, 20 * 64 + 3, 1));
        // She sees what is not in doubt: nothing is known of the rest.
        due(1, x.plan(both, 20 * 64 + 4, 2));
        dueFraction(40, 1, x.plan(both, 20 * 64 + 4, 0), x.plan(both, 20 * 64 + 4, 1));
        // LOOK does not count here.
        x.mend(0, 7, 99);
        dueFraction(34, 1, x.plan(both, 20 * 64 + 3, 0), x.plan(both, 20 * 64 + 3, 1));
        // Unlike chances: 1/4 of 40 and 3/4 of 60: staying costs 55.
        x.mend(0, 0, 36);
        x.mend(1, 0, 108);
        // She sees the first: 4 + 1/4 of 48 + 3/4 of 45.
        dueFraction(48, 1, x.plan(both, 24 * 64 + 1, 0), x.plan(both, 24 * 64 + 1, 1));
        due(1, x.plan(both, 24 * 64 + 1, 2));
        due(1, x.plan(both, 25 * 64 + 1, 2));
        due(2, x.plan(both, 26 * 64 + 1, 2));
        dueFraction(203, 4, x.plan(both, 26 * 64 + 1, 0), x.plan(both, 26 * 64 + 1, 1));
        // She sees the second: 4 + 3/4 of 52 + 1/4 of 10.
        dueFraction(91, 2, x.plan(both, 26 * 64 + 2, 0), x.plan(both, 26 * 64 + 2, 1));
        // Going costs as much as staying: the first of like ones, if ringing costs more.
        x.mend(1, 3, 56);
        x.mend(0, 8, 99);
        due(0, x.plan(both, 26 * 64 + 2, 2));
        due(1, x.plan(both, 25 * 64 + 2, 2));
        dueFraction(52, 1, x.plan(both, 26 * 64 + 2, 0), x.plan(both, 26 * 64 + 2, 1));
        for (int i = 0; i < 4; i++) {
            x.undo();
        }
        due(BAD_LONG, x.plan(both, 20 * 64 + 8, 2));
        due(BAD_LONG, x.plan(both, 100 * 64, 2));
        due(BAD_LONG, x.plan(both, -1, 2));
        due(BAD_LONG, x.plan(both, MAX, 2));
        due(BAD_LONG, x.plan(both, MIN, 2));
        due(BAD_LONG, x.plan(both, 0, 3));
        due(BAD_LONG, x.plan(both, 0, -1));
        due(BAD_LONG, x.plan(8, 0, 2));
        due(NOT, x.plan(3, 0, 2));
        due(NOT, x.plan(3, 0, 0));
        due(BAD_LONG, x.plan(3, 0, 3));

        promise(15);
        for (int i = 1; i <= 12; i++) {
            due(i, x.rung());
            if (i == 6) {
                // She picks up in half: 4 + half of 30 + half of 40.
                dueFraction(39, 1, x.plan(both, 20 * 64 + 3, 0), x.plan(both, 20 * 64 + 3, 1));
            }
        }
        due(12, x.rung());
        due(12, x.of(0, 12));
        due(1, x.plan(both, 20 * 64 + 3, 2));
        due(0, x.plan(both, 25 * 64 + 3, 2));
    }

    private static void waysAndLists() {
        promise(16);
        HasShut x = new HasShut();
        dueFraction(1, 48, x.two(911, 0, 0), x.two(911, 0, 1));
        dueFraction(7, 24, x.two(911, 1, 0), x.two(911, 1, 1));
        dueFraction(11, 16, x.two(911, 2, 0), x.two(911, 2, 1));
        dueFraction(17, 24, x.two(911, 3, 0), x.two(911, 3, 1));
        dueFraction(1, 1, x.two(0, 3, 0), x.two(0, 3, 1));
        dueFraction(1, 1, x.two(1200, 1, 0), x.two(1200, 1, 1));
        dueFraction(0, 1, x.two(12, 3, 0), x.two(12, 3, 1));
        due(BAD_LONG, x.two(-1, 0, 0));
        due(BAD_LONG, x.two(13, 0, 0));
        due(BAD_LONG, x.two(1300, 0, 0));
        due(BAD_LONG, x.two(0, 4, 0));
        due(BAD_LONG, x.two(0, -1, 0));
        due(BAD_LONG, x.two(0, 0, 2));
        due(BAD_LONG, x.two(0, 0, -1));

        promise(17);
        due(9, x.shortest(1, 0, -1));
        due(0, x.shortest(0, 0, -1));
        due(0, x.shortest(0, 0, 1));
        due(18, x.shortest(0, 2, -1));
        due(0, x.shortest(33, 0, -1));
        due(3, x.shortest(33, 8, 1));
        due(NOT, x.shortest(33, 8, 2));
        due(NOT, x.shortest(33, 8, MAX));
        due(54, x.shortest(22, 63, -1));
        int[] round = {2, 0, 1, 3, 4, 5, 2};
        for (int k = 0; k < round.length; k++) {
            due(round[k], x.shortest(22, 63, k));
        }
        due(NOT, x.shortest(22, 63, 7));
        // 5 - 4 - 1 - 2 - 0 is the one cheap way.
        x.mend(54, 9, 1);
        x.mend(14, 9, 2);
        x.mend(12, 9, 3);
        x.mend(20, 9, 4);
        due(10, x.shortest(50, 22, -1));
        int[] cheap = {5, 4, 1, 2, 0};
        for (int k = 0; k < cheap.length; k++) {
            due(cheap[k], x.shortest(50, 22, k));
            due(cheap[4 - k], x.shortest(5, 22, k));
        }
        due(BAD, x.shortest(-1, 0, 0));
        due(BAD, x.shortest(6, 0, 0));
        due(BAD, x.shortest(60, 0, 0));
        due(BAD, x.shortest(100, 0, 0));
        due(BAD, x.shortest(0, -1, 0));
        due(BAD, x.shortest(0, 64, 0));
        due(BAD, x.shortest(0, 0, -2));
        // It goes straight from ROOM to ROOM, also where a way round would be less.
        x.mend(1, 9, 99);
        due(99, x.shortest(1, 0, -1));
        for (int i = 0; i < 120; i++) {
            dueCheapWay(3, 3, orderOf(i, 0, 1, 2, 4, 5));
            dueCheapWay(0, 5, orderOf(i % 24, 1, 2, 3, 4));
            dueCheapWay(5, 1, orderOf(i % 24, 0, 2, 3, 4));
        }

        promise(18);
        due(NOTHING, x.length(0, 0));
        due(BAD, x.length(-1, 0));
        due(BAD, x.length(6, 0));
        due(BAD, x.length(0, 2));
        due(BAD, x.length(0, -1));
        x.row(0, 2, 1);
        due(KIND, x.length(0, 0));
        x.body(0);
        x.keep(0, 0);
        due(KIND, x.length(0, 1));
        x.row(0, 0, 0);
        due(STATE, x.length(0, 0));
        due(STATE, x.length(0, 1));
        fill(x, 0, 0, 4);
        due(0, x.length(0, 0));
        due(0, x.length(0, 1));
        fill(x, 0, 0, 5, 1, 4, 4, 2, 0);
        due(9 + 2 + 9 + 4, x.length(0, 0));
        due(14, x.length(0, 1));
        x.put(0, 2, 6);
        due(STATE, x.length(0, 0));
        x.put(0, 2, -1);
        due(STATE, x.length(0, 1));
        x.put(0, 2, 4);
        x.put(0, 0, 6);
        due(STATE, x.length(0, 0));
        x.put(0, 0, 5);
        x.put(0, 5, 6);
        due(STATE, x.length(0, 0));
        // There and back again costs less than each ROOM once.
        x.mend(1, 9, 1);
        x.mend(34, 9, 90);
        x.mend(3, 9, 2);
        x.mend(4, 9, 2);
        fill(x, 0, 0, 3, 0, 4);
        due(4, x.length(0, 0));
        due(0, x.length(0, 1));
        fill(x, 0, 0, 0, 3, 0, 4);
        due(6, x.length(0, 0));
        due(6 - 92, x.length(0, 1));

        promise(19);
        due(BAD_LONG, x.list(0, 0));
        x.thing(40, 900);
        dueFraction(5, 31, x.list(6, 0), x.list(6, 1));
        dueFraction(0, 1, x.list(0, 0), x.list(0, 1));
        dueFraction(5, 18, x.list(12, 0), x.list(12, 1));
        due(BAD_LONG, x.list(13, 0));
        x.thing(72, 0);
        dueFraction(1, 5, x.list(103, 0), x.list(103, 1));
        dueFraction(1, 2, x.list(112, 0), x.list(112, 1));
        due(BAD_LONG, x.list(113, 0));
        due(BAD_LONG, x.list(200, 0));
        due(BAD_LONG, x.list(-1, 0));
        due(BAD_LONG, x.list(0, 2));
        due(BAD_LONG, x.list(0, -1));
        x.mend(0, 0, 144);
        due(NOT, x.list(0, 0));
        due(NOT, x.list(0, 1));
        dueFraction(1, 1, x.list(1, 0), x.list(1, 1));

        promise(20);
        x = new HasShut();
        due(BAD_LONG, x.ever(0, 0, 0));
        x.thing(48, 1);
        dueFraction(0, 1, x.ever(0, 0, 0), x.ever(0, 0, 1));
        dueFraction(1, 3, x.ever(0, 1, 0), x.ever(0, 1, 1));
        dueFraction(2187 - 128, 2187, x.ever(0, 7, 0), x.ever(0, 7, 1));
        due(BAD_LONG, x.ever(0, 8, 0));
        due(BAD_LONG, x.ever(0, -1, 0));
        due(BAD_LONG, x.ever(1, 1, 0));
        due(BAD_LONG, x.ever(0, 1, 2));
        x.mend(0, 0, 1);
        long all = 1;
        long never = 1;
        for (int i = 0; i < 7; i++) {
            all *= 144;
            never *= 143;
        }
        dueFraction(all - never, all, x.ever(0, 7, 0), x.ever(0, 7, 1));

        promise(21);
        x = new HasShut();
        for (int part = 0; part <= 2; part++) {
            due(NOT, x.camera(0, 0, part));
        }
        due(BAD_LONG, x.camera(0, 0, 3));
        due(BAD_LONG, x.camera(0, 100, 0));
        x.thing(72, 40);
        x.thing(72, 60);
        due(BAD_LONG, x.camera(4, 0, 0));
        for (int i = 0; i < 2; i++) {
            x.mend(i, 1, 12);
            x.mend(i, 2, 12);
        }
        // Staying 50, going 40. The first known: half of 40, half of 30: 35. The second: half of 40, half of 20: 30.
        int both = 64 * 3 + 3;
        due(1, x.camera(both, 20, 2));
        dueFraction(10, 1, x.camera(both, 20, 0), x.camera(both, 20, 1));
        due(0, x.camera(both, 0, 2));
        dueFraction(0, 1, x.camera(both, 0, 0), x.camera(both, 0, 1));
        due(1, x.camera(128 + 2, 0, 2));
        // LOOK does not count here.
        x.mend(0, 7, 99);
        dueFraction(10, 1, x.camera(both, 20, 0), x.camera(both, 20, 1));
        x.mend(0, 3, 60);
        due(0, x.camera(both, 20, 2));
        // Chances 1/4, 1/2 and 3/4 of 60, 60 and 8: staying 51, going 40. The first known: of 36, 1/4 goes
        // for 40: 37. The second: half of 40, half of 21: 30.5. The third: 40, as 45 and 53 are more.
        x.mend(0, 0, 36);
        x.thing(108, 8);
        x.mend(2, 1, 12);
        x.mend(2, 2, 12);
        due(1, x.camera(64 * 7 + 7, 20, 2));
        dueFraction(19, 2, x.camera(64 * 7 + 7, 20, 0), x.camera(64 * 7 + 7, 20, 1));
        // From 30 yards going costs 60. The first: 1/4 of 60, 3/4 of 36: 42. The second: half of 60, half of 21.
        due(1, x.camera(64 * 7 + 7, 30, 2));
        dueFraction(21, 2, x.camera(64 * 7 + 7, 30, 0), x.camera(64 * 7 + 7, 30, 1));
        x.mend(1, 3, 2);
        // The first alone counts: staying 22, going 10: 3/4 of 7, 1/4 of 10.
        due(0, x.camera(64 * 7 + 7, 5, 2));
        dueFraction(9, 4, x.camera(64 * 7 + 7, 5, 0), x.camera(64 * 7 + 7, 5, 1));
        due(NOT, x.camera(3, 20, 2));
        due(NOT, x.camera(3, 20, 0));
        due(BAD_LONG, x.camera(3, 20, -1));
    }

    /** The same draws as the document tells them, by longs. */
    private static int[] draws(int seed, int n) {
        int[] drawn = new int[2 * n];
        long z = seed;
        for (int i = 0; i < drawn.length; i++) {
            z = (z * 1103515245L + 12345L) & 0xffffffffL;
            drawn[i] = (int) ((z >> 8) % (i % 2 == 0 ? 144 : 12));
        }
        return drawn;
    }

    /** The i-th of all orders of ROOMS. */
    private static int[] orderOf(int i, int... rooms) {
        int[] order = rooms.clone();
        for (int n = order.length; n > 1; n--) {
            int room = order[i % n];
            order[i % n] = order[n - 1];
            order[n - 1] = room;
            i /= n;
        }
        return order;
    }

    /** Where just one way through all six ROOMS is cheap, it is the shortest: back to its first ROOM, both ways round. */
    private static void dueCheapWay(int a, int z, int[] between) {
        HasShut x = new HasShut();
        int[] way = new int[between.length + 2];
        way[0] = a;
        way[way.length - 1] = z;
        System.arraycopy(between, 0, way, 1, between.length);
        int rooms = 0;
        for (int i = 1; i < way.length; i++) {
            x.mend(10 * way[i - 1] + way[i], 9, i % 2 + 1);
            rooms |= i < way.length - 1 ? 1 << way[i] : 0;
        }
        boolean turned = a == z && between[0] > between[between.length - 1];
        int length = way.length / 2 + way.length - 1;
        due(length, x.shortest(10 * a + z, rooms, -1));
        for (int k = 0; k < way.length; k++) {
            due(way[turned ? way.length - 1 - k : k], x.shortest(10 * a + z, rooms, k));
        }
    }

    private static void drawnAndGravel() {
        promise(22);
        HasShut x = new HasShut();
        due(BAD, x.drawn(1, 1, 0, 0));
        x.thing(40, 100);
        x.thing(100, 30);
        int[] drawn = draws(-7, 60);
        int[] costs = new int[5];
        int[] vain = new int[5];
        for (int i = 0; i < 60; i++) {
            boolean open = drawn[2 * i] < 100;
            boolean remembered = drawn[2 * i + 1] < (open ? 3 : 10);
            // From 8 yards it costs 16: PAYS and THE LAW if not REMEMBERED: 30 * 225/247 is more, 30 * 15/37 less.
            boolean[] goes = {false, true, !remembered, !remembered, !remembered};
            for (int way = 0; way < 5; way++) {
                costs[way] += goes[way] ? 16 : open ? 30 : 0;
                vain[way] += goes[way] && !open ? 1 : 0;
            }
        }
        for (int way = 0; way < 5; way++) {
            due(costs[way], x.drawn(-7, 60, 1080 + way, 0));
            due(vain[way], x.drawn(-7, 60, 1080 + way, 1));
        }
        due(0, x.of(0, 11));
        lawOf(x, "o>109&h=30&y=8&p=1&n=1&v=0");
        due(costs[2], x.drawn(-7, 60, 1084, 0));
        lawOf(x, "0?1");
        due(costs[0], x.drawn(-7, 60, 1084, 0));
        due(0, x.drawn(-7, 60, 1084, 1));
        int[] one = draws(3, 1);
        due(one[0] < 40 ? 100 : 0, x.drawn(3, 1, 0, 0));
        due(one[0] < 40 ? 0 : 1, x.drawn(3, 1, 1, 1));
        due(0, x.drawn(3, 1, 1, 0));
        due(198, x.drawn(3, 1, 991, 0));
        due(198, x.drawn(3, 1, 1991, 0));
        due(BAD, x.drawn(1, 0, 0, 0));
        due(BAD, x.drawn(1, 61, 0, 0));
        due(BAD, x.drawn(1, 1, 5, 0));
        due(BAD, x.drawn(1, 1, 9, 0));
        due(BAD, x.drawn(1, 1, -1, 0));
        due(BAD, x.drawn(1, 1, 2000, 0));
        due(BAD, x.drawn(1, 1, MAX, 0));
        due(BAD, x.drawn(1, 1, 0, 2));
        due(BAD, x.drawn(1, 1, 0, -1));
        // MARKED and never USED: REMEMBERED just if it was done.
        x.mend(1, 4, 1);
        int open = 0;
        for (int i = 0; i < 60; i++) {
            open += drawn[2 * i] < 100 ? 1 : 0;
        }
        due(16 * open, x.drawn(-7, 60, 1082, 0));
        due(0, x.drawn(-7, 60, 1082, 1));
        due(0, x.of(1, 10));

        promise(23);
        x = new HasShut();
        due(BAD, x.fits(0, 0));
        x.thing(72, 40);
        due(NOTHING, x.fits(0, 0));
        due(BAD, x.fits(6, 0));
        due(BAD, x.fits(-1, 0));
        due(BAD, x.fits(0, 2));
        due(BAD, x.fits(0, 10));
        due(BAD, x.fits(0, -1));
        x.row(0, 0, 0);
        due(31, x.fits(0, 0));
        // Not REMEMBERED: 9/11 of 40 is 32: it pays up to 16 yards. REMEMBERED: 3/13 of 40: up to 4.
        fill(x, 0, 0, 1, 16, 0, 17);
        due(24, x.fits(0, 0));
        due(0, x.fits(0, 1));
        fill(x, 0, 0, 1, 4, 0, 5);
        due(24, x.fits(0, 1));
        fill(x, 0, 0, 1, 0, 1, 99);
        due(6, x.fits(0, 0));
        due(2, x.fits(0, 1));
        fill(x, 0, 0, 0, 99, 0, 98);
        due(1 + 8 + 16, x.fits(0, 0));
        due(1 + 4 + 8 + 16, x.fits(0, 1));
        // Another THING, that is always open: it pays up to 19 yards.
        x.thing(144, 40);
        fill(x, 0, 0, 1, 19, 0, 20);
        due(24, x.fits(0, 10));
        due(24, x.fits(0, 11));
        due(NOT, x.when(0, 11, 4));
        due(1, x.when(0, 10, 2));
        fill(x, 0, 0, 0, 99, 0, 98);
        lawOf(x, "1");
        due(1 + 8, x.fits(0, 0));
        long[][] wrong = {{1}, {2, 0}, {-1, 0}, {0, 100}, {0, -1}, {1, 1, 0}, {0, 0, 0, 0, 2, 0}};
        for (long[] gravel : wrong) {
            fill(x, 0, 0, gravel);
            due(STATE, x.fits(0, 0));
            due(STATE, x.when(0, 0, 0));
        }
        // OPEN that cannot be so counts as 0: PAYS never, THE LAW by o 0.
        x.mend(0, 0, 0);
        x.mend(0, 1, 0);
        lawOf(x, "o=0&h=40&n=1");
        fill(x, 0, 0, 1, 0);
        due(2 + 16, x.fits(0, 1));
        x.row(0, 4, 2);
        due(KIND, x.fits(0, 0));
        x.body(0);
        x.keep(0, 0);
        due(KIND, x.fits(0, 0));

        promise(24);
        x = new HasShut();
        due(BAD, x.when(0, 0, 0));
        x.thing(72, 40);
        due(NOTHING, x.when(0, 0, 0));
        fill(x, 0, 0, 1, 16, 0, 17, 1, 17);
        due(0, x.when(0, 0, 0));
        due(1, x.when(0, 0, 1));
        due(1, x.when(0, 0, 2));
        due(2, x.when(0, 0, 3));
        due(2, x.when(0, 0, 4));
        due(0, x.when(0, 1, 2));
        due(0, x.when(0, 1, 3));
        x.put(0, 4, 0);
        due(NOT, x.when(0, 0, 3));
        due(BAD, x.when(0, 0, 5));
        due(BAD, x.when(0, 0, -1));
        due(BAD, x.when(0, 2, 0));
        due(BAD, x.when(6, 0, 0));
        due(BAD, x.when(0, 10, 0));
        x.row(0, 0, 0);
        due(NOT, x.when(0, 0, 0));
        x.row(0, 1, 2);
        due(KIND, x.when(0, 0, 0));

        promise(25);
        x = new HasShut();
        due(NOTHING, x.judge(0));
        due(BAD, x.judge(-1));
        due(BAD, x.judge(6));
        x.row(0, 0, 3);
        due(KIND, x.judge(0));
        x.row(0, 1, 0);
        due(NOT, x.judge(0));
        x.thing(72, 40);
        x.thing(0, 40);
        x.mend(1, 1, 12);
        // 9/11 of 144 is 117.8, 3/13 of 144 is 33.2.
        fill(x, 0, 1, 0, 0, 117, 0, 1, 33, 1, 1, 0);
        due(NOT, x.judge(0));
        long[][] notSo = {{0, 0, 118}, {0, 1, 34}, {0, 2, 72}, {0, -1, 0}, {2, 0, 0}, {-1, 0, 0}, {1, 0, 0}, {0, 0}, {0}};
        for (long[] three : notSo) {
            fill(x, 0, 1, three);
            due(0, x.judge(0));
            long[] behind = new long[3 + three.length];
            behind[2] = 117;
            System.arraycopy(three, 0, behind, 3, three.length);
            fill(x, 0, 1, behind);
            due(1, x.judge(0));
        }
        // A THING surely shut: the third that lacks is no 0.
        fill(x, 0, 1, 1, 1, 0);
        due(NOT, x.judge(0));
        fill(x, 0, 1, 1, 1);
        due(0, x.judge(0));
        x.body(0);
        x.keep(0, 0);
        due(KIND, x.judge(0));
    }

    /** A seed with which a THING forgotten in 72 is done, or not. */
    private static int seedFor(boolean done) {
        int seed = 0;
        while (draws(seed, 1)[0] >= 72 != done) {
            seed++;
        }
        return seed;
    }

    private static void inDeed() {
        int done = seedFor(true);
        int notDone = seedFor(false);
        HasShut x = new HasShut();
        promise(26);
        due(BAD, x.morning(0, 1));
        x.thing(72, 40);
        due(BAD, x.morning(-1, 1));
        due(BAD, x.morning(1, 1));
        int remembered = 0;
        for (int seed = -20; seed < 20; seed++) {
            int[] drawn = draws(seed, 1);
            int want = drawn[1] < (drawn[0] < 72 ? 3 : 10) ? 1 : 0;
            remembered += want;
            due(want, x.morning(0, seed));
            due(STATE, x.morning(0, seed));
            due(BAD, x.morning(1, seed));
            due(drawn[0] < 72 ? 40 : 0, x.goOn());
        }
        due(1, remembered > 5 && remembered < 35 ? 1 : 0);
        due(0, x.of(0, 10));
        x.mend(0, 4, 1);
        for (int i = 1; i <= 13; i++) {
            due(1, x.morning(0, done));
            x.goOn();
            due(Math.min(i, 12), x.of(0, 10));
        }
        // USED twelve times: REMEMBERED for sure by who did not, too.
        due(1, x.morning(0, notDone));
        due(40, x.goOn());

        promise(27);
        x = new HasShut();
        x.thing(72, 40);
        due(STATE, x.goBack(0));
        due(BAD, x.goBack(-1));
        due(BAD, x.goBack(100));
        x.mend(0, 6, 3);
        x.morning(0, done);
        due(BAD, x.goBack(100));
        due(12, x.goBack(2));
        due(1, x.of(0, 11));
        due(STATE, x.goBack(2));
        x.morning(0, notDone);
        due(594, x.goBack(99));
        due(1, x.of(0, 11));

        promise(28);
        due(STATE, x.goOn());
        x.morning(0, notDone);
        due(40, x.goOn());
        due(STATE, x.goOn());
        x.morning(0, done);
        due(0, x.goOn());
        due(1, x.of(0, 11));

        promise(30);
        due(4, x.led(0));
        due(2, x.led(1));
        due(1, x.led(2));
        due(12 + 594 + 40, x.led(3));
        due(594, x.led(4));
        due(BAD, x.led(5));
        due(BAD, x.led(-1));
        // VAIN counts for THE LAW, and to 99 alone.
        lawOf(x, "v=1");
        due(1, x.gone(1, 0));
        for (int i = 2; i <= 101; i++) {
            x.morning(0, done);
            x.goBack(0);
            due(Math.min(i, 99), x.of(0, 11));
        }
        due(101, x.led(2));

        promise(29);
        x = new HasShut();
        due(0, x.dayOff());
        for (int i = 0; i < 3; i++) {
            x.thing(72, 40);
            x.mend(i, 4, 1);
        }
        x.morning(0, done);
        x.goOn();
        x.morning(1, done);
        x.goOn();
        x.morning(1, done);
        due(0, x.dayOff());
        due(1, x.of(0, 10));
        due(2, x.of(1, 10));
        x.goOn();
        x.morning(0, done);
        x.goOn();
        due(1, x.dayOff());
        due(2, x.of(0, 10));
        due(1, x.of(1, 10));
        due(2, x.dayOff());
        due(1, x.dayOff());
        due(0, x.dayOff());
        due(0, x.of(0, 10));
        due(0, x.of(2, 10));

        promise(31);
        x = new HasShut();
        due(0, x.image());
        x.thing(72, 40);
        x.mend(0, 4, 1);
        x.morning(0, done);
        x.goBack(1);
        x.morning(0, done);
        x.goBack(2);
        x.rung();
        x.morning(0, notDone);
        due(2, x.image());

        promise(32);
        due(40, x.goOn());
        x.rung();
        x.dayOff();
        x.dayOff();
        x.thing(72, 7);
        x.mend(1, 4, 1);
        x.morning(1, done);
        x.goBack(5);
        due(1, x.of(1, 10));
        due(2, x.back());
        due(3, x.of(0, 10));
        due(0, x.of(1, 10));
        due(1, x.of(1, 4));
        due(2, x.count(0));
        due(2, x.of(0, 11));
        due(1, x.of(0, 12));
        due(2, x.led(0));
        due(2, x.led(1));
        due(2, x.led(2));
        due(6, x.led(3));
        due(4, x.led(4));
        due(STATE, x.morning(0, 1));
        due(40, x.goOn());
        // Used since a day off when the image was kept: it does not become less at the first one.
        due(0, x.dayOff());
        due(1, x.dayOff());
        // It can be laid back again.
        due(2, x.back());
        due(3, x.of(0, 10));
        due(40, x.goOn());
        due(3, x.image());
        due(3, x.back());
        due(STATE, x.goOn());
    }

    private static void changes() {
        promise(33);
        HasShut x = new HasShut();
        due(STATE, x.undo());
        x.thing(6, 100);
        due(STATE, x.undo());
        x.mend(0, 0, 6);
        due(STATE, x.undo());
        x.mend(0, 0, 7);
        x.mend(0, 4, 1);
        x.mend(0, 8, 6);
        x.mend(35, 9, 50);
        due(4, x.count(3));
        due(3, x.undo());
        due(9, x.of(53, 9));
        due(2, x.undo());
        due(5, x.of(0, 8));
        due(1, x.undo());
        due(0, x.of(0, 4));
        due(0, x.undo());
        due(6, x.of(0, 0));
        due(STATE, x.undo());

        promise(34);
        due(3, x.redo());
        due(7, x.of(0, 0));
        due(2, x.redo());
        due(1, x.of(0, 4));
        due(1, x.undo());
        due(2, x.redo());
        // No CHANGE, or a refused one: what was UNDONE can still be DONE AGAIN.
        x.mend(0, 0, 7);
        x.mend(0, 0, 145);
        due(1, x.redo());
        due(0, x.redo());
        due(50, x.of(35, 9));
        due(STATE, x.redo());
        due(3, x.undo());
        due(2, x.undo());
        x.mend(0, 3, 1);
        due(STATE, x.redo());
        due(2, x.undo());
        due(100, x.of(0, 3));
        for (int i = 1; i <= 45; i++) {
            x.mend(0, 3, i);
        }
        due(40, x.count(3));
        for (int i = 39; i >= 0; i--) {
            due(i, x.undo());
        }
        due(5, x.of(0, 3));
        due(STATE, x.undo());
        for (int i = 39; i >= 0; i--) {
            due(i, x.redo());
            due(45 - i, x.of(0, 3));
        }
        // The latest 40 of 50, of the three prices by turns: what ten left stays.
        int[] tenth = new int[3];
        int[] last = new int[3];
        for (int i = 0; i < 50; i++) {
            x.mend(0, 6 + i % 3, 10 + i);
            last[i % 3] = 10 + i;
            if (i < 10) {
                tenth[i % 3] = 10 + i;
            }
        }
        for (int i = 39; i >= 0; i--) {
            due(i, x.undo());
        }
        for (int what = 0; what < 3; what++) {
            due(tenth[what], x.of(0, 6 + what));
        }
        for (int i = 39; i >= 0; i--) {
            due(i, x.redo());
        }
        for (int what = 0; what < 3; what++) {
            due(last[what], x.of(0, 6 + what));
        }
    }

    private static void goers() {
        promise(35);
        HasShut x = new HasShut();
        due(BAD, x.body(-1));
        due(BAD, x.body(8));
        for (int i = 0; i < 50; i++) {
            due(i, x.body(i % 8));
        }
        due(FULL, x.body(0));
        due(BAD, x.body(8));
        due(50, x.count(4));

        promise(36);
        // n is 8 and up: a GOER of KIND k is BODY 8 + k.
        int[][] answers = {
            // goes(3), looks(3), shuts(3), tells(3) by KIND
            {3 + 8, 22, 3 ^ 8, 22 - (1 ^ 8)},
            {3 + 9 + 3, 30, 3 ^ 9, 30 - (1 ^ 9)},
            {3 + 10, -26, 3 ^ 10, -26 - (1 ^ 10)},
            {3 + 11, -30, 3 * (3 ^ 11), -30 - 3 * (1 ^ 11)},
            {3 + 12 + 3, 36, (3 ^ 12) - 17, 36 - ((1 ^ 12) - 17)},
            {3 + 13, -34, 3 * (3 ^ 13), (-34 - 3 * (1 ^ 13)) ^ 5},
            {2 * (3 + 14), 68, 3 ^ 14, 68 - (1 ^ 14)},
            {3 + 15 + 3, 42 + (2 ^ 15) - 20, (3 ^ 15) - 20, 42 + (2 ^ 15) - 20 - ((1 ^ 15) - 20) - 1},
        };
        for (int kind = 0; kind < 8; kind++) {
            for (int act = 0; act < 4; act++) {
                due(answers[kind][act], x.act(8 + kind, act, 3));
            }
        }
        due(MIN, x.act(1, 0, MAX - 3));
        due(-2 * 2, x.act(0, 1, -2));
        due(0, x.act(50, 0, 3));
        due(0, x.act(-1, 0, 3));
        due(0, x.act(0, 4, 3));
        due(0, x.act(0, -1, 3));

        promise(37);
        int[][] traces = {
            {1}, {10, 1}, {11}, {2, 10, 1, 11},
            {20, 1}, {10, 20, 1}, {11}, {2, 10, 20, 1, 11},
            {1}, {30, 10, 1}, {11}, {2, 30, 10, 1, 11},
            {1}, {41, 30, 10, 1}, {40, 11}, {2, 41, 30, 10, 1, 40, 11},
            {20, 1}, {10, 20, 1}, {50, 11, 20, 1}, {2, 10, 20, 1, 50, 11, 20, 1},
            {1}, {41, 30, 10, 1}, {40, 11}, {60, 2, 41, 30, 10, 1, 40, 11},
            {70, 1}, {10, 70, 1}, {11}, {2, 10, 70, 1, 11},
            {20, 1}, {80, 10, 20, 1, 50, 11, 20, 1}, {50, 11, 20, 1},
            {81, 2, 80, 10, 20, 1, 50, 11, 20, 1, 50, 11, 20, 1},
        };
        for (int i = 0; i < traces.length; i++) {
            x.act(i / 4, i % 4, 5);
            due(traces[i].length, x.count(5));
            for (int k = 0; k < traces[i].length; k++) {
                due(traces[i][k], x.trace(k));
            }
            due(BAD, x.trace(traces[i].length));
        }
        due(BAD, x.trace(-1));
        due(BAD, x.trace(24));
        due(BAD, x.trace(MAX));
        x.act(50, 0, 0);
        due(BAD, x.trace(0));
        due(0, x.count(5));
        x.act(0, 0, 0);
        x.act(0, 4, 0);
        due(BAD, x.trace(0));
    }

    private static void shelves() {
        promise(38);
        HasShut x = new HasShut();
        due(BAD, x.keep(0, 0));
        due(BAD, x.keep(0, -2));
        due(BAD, x.keep(6, -1));
        due(BAD, x.keep(-1, -1));
        due(1, x.keep(0, -1));
        x.body(3);
        due(1, x.keep(0, 0));
        due(3, x.taken(0, 3));
        due(BAD, x.keep(0, 1));
        due(3, x.taken(0, 3));
        due(1, x.keep(0, -1));
        due(NOTHING, x.taken(0, 3));

        promise(39);
        due(BAD, x.row(-1, 0, 0));
        due(BAD, x.row(6, 0, 0));
        due(BAD, x.row(0, 5, 0));
        due(BAD, x.row(0, -1, 0));
        due(BAD, x.row(0, 0, 61));
        due(BAD, x.row(0, 5, -1));
        due(SIZE, x.row(0, 0, -1));
        due(SIZE, x.row(0, 4, MIN));
        due(NOTHING, x.put(0, 0, 0));
        due(1, x.row(0, 3, 60));
        due(1, x.put(0, 59, 7));
        due(1, x.row(0, 3, 60));
        due(0, x.element(0, 59));
        due(1, x.row(0, 3, 0));
        due(PLACE, x.put(0, 0, 7));
        x.keep(0, 0);
        due(1, x.row(0, 0, 1));
        due(0, x.element(0, 0));

        promise(40);
        long v = 0x1234567890abcdefL;
        long[] lowest = {(byte) 0xef, (short) 0xcdef, 0x90abcdef, v, 1};
        for (int sort = 0; sort < 5; sort++) {
            x.row(1, sort, 2);
            due(1, x.put(1, 1, v));
            due(lowest[sort], x.element(1, 1));
            due(0, x.element(1, 0));
            due(1, x.put(1, 0, Long.MIN_VALUE));
            due(sort == 3 ? Long.MIN_VALUE : sort == 4 ? 1 : 0, x.element(1, 0));
            due(1, x.put(1, 1, 0));
            due(0, x.element(1, 1));
            due(1, x.put(1, 1, -1));
            due(sort == 4 ? 1 : -1, x.element(1, 1));
            due(PLACE, x.put(1, 2, 0));
            due(PLACE, x.put(1, -1, 0));
        }
        due(BAD, x.put(6, 0, 0));
        due(BAD, x.put(-1, 0, 0));
        due(NOTHING, x.put(5, 0, 0));
        x.keep(5, 0);
        due(KIND, x.put(5, 0, 0));

        promise(41);
        due(BAD_LONG, x.element(6, 0));
        due(BAD_LONG, x.element(-1, 0));
        due(BAD_LONG, x.element(4, 0));
        due(BAD_LONG, x.element(5, 0));
        due(BAD_LONG, x.element(1, 2));
        due(BAD_LONG, x.element(1, -1));
        due(BAD_LONG, x.element(1, MAX));

        promise(42);
        x = new HasShut();
        x.body(0);
        due(NOTHING, x.shift(0, 0, 0, 0, 0));
        x.row(0, 2, 5);
        due(NOTHING, x.shift(0, 0, 1, 0, 0));
        due(NOTHING, x.shift(1, 0, 0, 0, 0));
        x.keep(1, 0);
        due(NOTHING, x.shift(1, 0, 2, 0, 0));
        due(KIND, x.shift(0, 0, 1, 0, 0));
        due(KIND, x.shift(1, 0, 0, 0, 0));
        // The GOER stands where a ROW of that sort stood.
        x.row(1, 2, 5);
        x.keep(1, 0);
        due(KIND, x.shift(0, 0, 1, 0, 1));
        due(KIND, x.shift(1, 0, 0, 0, 1));
        x.row(1, 3, 5);
        due(KIND, x.shift(0, 0, 1, 0, 9));
        due(BAD, x.shift(6, 0, 0, 0, 0));
        due(BAD, x.shift(0, 0, -1, 0, 0));
        fill(x, 0, 2, 1, 2, 3, 4, 5);
        due(4, x.shift(0, 0, 0, 1, 4));
        dueRow(x, 0, 1, 1, 2, 3, 4);
        due(3, x.shift(0, 2, 0, 0, 3));
        dueRow(x, 0, 2, 3, 4, 3, 4);
        fill(x, 1, 2, 9, 8, 7);
        due(2, x.shift(1, 1, 0, 3, 2));
        dueRow(x, 0, 2, 3, 4, 8, 7);
        due(0, x.shift(1, 3, 0, 5, 0));
        int[][] noPlaces = {{-1, 0, 1}, {0, -1, 1}, {0, 0, -1}, {4, 0, 0}, {0, 6, 0}, {2, 0, 2}, {0, 3, 3},
            {MAX, 0, 1}, {0, MAX, 1}, {0, 0, MAX}, {1, 1, MAX}, {MIN, 0, MIN}};
        for (int[] places : noPlaces) {
            due(PLACE, x.shift(1, places[0], 0, places[1], places[2]));
        }
        dueRow(x, 0, 2, 3, 4, 8, 7);

        promise(43);
        x = new HasShut();
        int[] above = {-1, 0, 0, 2, 1, 3, 0, 4};
        due(NOTHING, x.taken(0, 0));
        due(BAD, x.taken(6, 0));
        due(BAD, x.taken(-1, 0));
        due(BAD, x.taken(0, 8));
        due(BAD, x.taken(0, -1));
        for (int kind = 0; kind < 8; kind++) {
            x.keep(0, x.body(kind));
            for (int k = 0; k < 8; k++) {
                boolean under = kind == k;
                for (int up = above[kind]; up >= 0; up = above[up]) {
                    under |= up == k;
                }
                due(under ? kind : KIND, x.taken(0, k));
            }
        }
        x.row(0, 0, 1);
        due(KIND, x.taken(0, 0));

        promise(44);
        x = new HasShut();
        x.thing(1, 1);
        x.thing(1, 1);
        x.thing(1, 1);
        x.mend(2, 4, 1);
        x.mend(0, 4, 1);
        x.feed('o');
        x.body(4);
        x.act(0, 2, 0);
        int[] counts = {3, 2, 1, 2, 1, 4};
        for (int what = 0; what <= 5; what++) {
            due(counts[what], x.count(what));
        }
        due(BAD, x.count(6));
        due(BAD, x.count(-1));
        x.undo();
        due(1, x.count(1));
        due(1, x.count(3));
    }

    private static void dueRow(HasShut x, int shelf, long... elements) {
        for (int i = 0; i < elements.length; i++) {
            due(elements[i], x.element(shelf, i));
        }
    }
}
