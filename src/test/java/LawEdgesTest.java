/** Promises 6, 7 and THE LAW in 13 and 22: the sentences that name a boundary. */
public final class LawEdgesTest {
    private static final String DIGITS = "0123456789", NAMES = "ohypvn", AHEAD = "!-(";
    private static final String SIGNS = "+-*/%", COMPARED = "<=>", JOINED = "&|";
    private static final String ALL = SIGNS + COMPARED + JOINED;
    /** 2 to the 31st, which is the least of all ints. */
    private static final String LEAST = "(8192*8192*32)";
    /** A THING with o 72, h 50 as REMEMBERED, PRICE 2. */
    private static final String EVEN = "thing(72, 50) = 0 mend(0, 1, 12) mend(0, 2, 12) mend(0, 6, 2) = 1 open(0, 1, /) = 1/2 ";

    private LawEdgesTest() {
    }

    public static void main(String[] args) {
        tape();
        lengths();
        whatIsNoLaw();
        faults();
        compared();
        depths();
        depthsThatEnd();
        values();
        truths();
        wraps();
        lines();
        names();
        withoutText();
        Due.end("LawEdgesTest");
    }

    private static void tape() {
        Script full = Script.run("6: a byte 0 .. 255", "feed(-1) = BAD feed(256) = BAD feed(MIN) = BAD feed(MAX) = BAD count(2) = 0");
        for (int i = 1; i <= 120; i++) {
            full.and("feed($1) = $2 count(2) = $2", i % 2 == 0 ? 0 : 255, i);
        }
        full.and("feed(0) = FULL feed(255) = FULL feed(49) = FULL feed(-1) = BAD feed(256) = BAD count(2) = 120");
        full.and("law() = -100 count(2) = 0 feed(0) = 1 feed(49) = 2 count(2) = 2 law() = -100 count(2) = 0 feed(49) = 1 law() = 1");
        for (int letter = 0; letter < 256; letter++) {
            Script.run("6: each byte comes: $1", "feed($1) = 1 count(2) = 1 feed($1) = 2", letter);
        }
    }

    private static void lengths() {
        Script.run("7: THE TAPE is empty then, after a LAW, too", "law(\"1\") = 1 count(2) = 0 feed(49) = 1 law() = 1 count(2) = 0");
        Script.run("7: the length, if it ends too early",
            "law() = -100 law(\"1+\") = -102 law(\"x\") = -100 law(\"1x+\") = -101 law(\"o>1?\") = -104 law(\"o>1;\") = -104");
        String longest = "11" + "+1".repeat(59);
        Script.run("7: a LAW of 120 bytes", "law(\"$1\") = 1", longest);
        Script.run("7: 120 bytes that end too early", "law(\"$1+\") = -220", longest.substring(1));
        Script.run("7: a FAULT at the 120th byte", "law(\"$1x\") = -219 law(\"$1 \") = -219", longest.substring(0, 119));
        Script.run("7: nothing, after a LAW that stands", "thing(72, 50) = 0 law(\"0\") = 1 law() = -100 gone(1, 0) = 0");
    }

    private static void whatIsNoLaw() {
        Script.run("7: what is no TEXT does not become THE LAW", """
            thing(72, 50) = 0 law("0") = 1 gone(1, 0) = 0 law("1 ") = -101 gone(1, 0) = 0 law("1") = 1 gone(1, 0) = 1
            law("0+") = -102 gone(1, 0) = 1 law() = -100 gone(1, 0) = 1""");
        Script.run("7: nor what is on THE TAPE alone", "thing(72, 50) = 0 say(\"0\") gone(1, 0) = 1 law() = 1 gone(1, 0) = 0");
        Script.run("7: a FAULT in a LINE that would not count", "law(\"1;x\") = -102 law(\"1;0?\") = -104 law(\"1?2;3?(\") = -107 law(\"0?(;1\") = -103");
    }

    /** What each of the 256 bytes does behind a text's begin: a TEXT ends with it, goes on with it, or it is the FAULT. */
    private static void behind(String begin, String ends, String goesOn) {
        for (int letter = 0; letter < 256; letter++) {
            int fault = goesOn.indexOf(letter) >= 0 ? begin.length() + 1 : begin.length();
            Script.run("7: behind $1 comes the byte $2", "say(\"$1\") feed($2) law() = $3 count(2) = 0",
                begin, letter, ends.indexOf(letter) >= 0 ? 1 : -100 - fault);
        }
    }

    private static void faults() {
        behind("", DIGITS + NAMES, AHEAD);
        behind("1", DIGITS, ALL + "?;");
        behind("000", DIGITS, ALL + "?;");
        behind("1234", "", ALL + "?;");
        behind("o+1234", "", ALL + "?;");
        behind("o", "", ALL + "?;");
        behind("(1", ")", DIGITS + ALL);
        behind("(n", ")", ALL);
        behind("(1)", "", ALL + "?;");
        behind("((o)", ")", ALL);
        behind("!1", DIGITS, ALL + "?;");
        behind("-h", "", ALL + "?;");
        for (char sign : (ALL + "?;").toCharArray()) {
            behind("o" + sign, DIGITS + NAMES, AHEAD);
        }
        behind("o?1", DIGITS, ALL + ";");
        behind("o?h", "", ALL + ";");
        behind("o?(h)", "", ALL + ";");
        behind("o?h;y", "", ALL + "?;");
        behind("o?h;y?p", "", ALL + ";");
        behind("o;h?y", "", ALL + ";");
        behind("(", "", DIGITS + NAMES + AHEAD);
        behind("o+-", DIGITS + NAMES, AHEAD);
        behind("o--", DIGITS + NAMES, AHEAD);
    }

    /** S < S < S is no B; behind & | ; ? ( one may be compared anew. */
    private static void compared() {
        for (char sign : COMPARED.toCharArray()) {
            behind("o" + sign + "p", "", SIGNS + JOINED + "?;");
            behind("o" + sign + "9", DIGITS, SIGNS + JOINED + "?;");
            behind("o" + sign + "p+v", "", SIGNS + JOINED + "?;");
            behind("(o" + sign + "1", ")", DIGITS + SIGNS + JOINED);
            behind("(o" + sign + "1)", "", ALL + "?;");
            behind("o" + sign + "(p" + sign + "v)", "", SIGNS + JOINED + "?;");
            behind("o" + sign + "(p", ")", ALL);
            behind("o" + sign + "p&v", "", ALL + "?;");
            behind("o" + sign + "p|v", "", ALL + "?;");
            behind("o" + sign + "p;v", "", ALL + "?;");
            behind("o" + sign + "p?v", "", ALL + ";");
        }
    }

    private static void depths() {
        behind("!!!!!", DIGITS + NAMES, AHEAD);
        behind("-----", DIGITS + NAMES, AHEAD);
        behind("(((((", "", DIGITS + NAMES + AHEAD);
        behind("!!!!!!", DIGITS + NAMES, "");
        behind("------", DIGITS + NAMES, "");
        behind("((((((", "", DIGITS + NAMES);
        behind("!-!-!-", DIGITS + NAMES, "");
        behind("!-(!-(", "", DIGITS + NAMES);
        behind("(-!(-!", "", DIGITS + NAMES);
        behind("o-!!!!!!", DIGITS + NAMES, "");
        behind("o>-!-!-!", DIGITS + NAMES, "");
        behind("o?------", DIGITS + NAMES, "");
        behind("o;------", DIGITS + NAMES, "");
        behind("o&!!!!!!", DIGITS + NAMES, "");
        behind("((((((o*", "", DIGITS + NAMES);
        behind("(-!(-!o", "", ALL + ")");
    }

    /** What stands ahead of an O is open till that O ends, ( till its ). */
    private static void depthsThatEnd() {
        behind("!!!!!!o-!!!!!", DIGITS + NAMES, AHEAD);
        behind("!!!!!!o-!!!!!!", DIGITS + NAMES, "");
        behind("!!!!!!o?!!!!!", DIGITS + NAMES, AHEAD);
        behind("!!!!!!o;!!!!!", DIGITS + NAMES, AHEAD);
        behind("(((((o)*", "", DIGITS + NAMES + AHEAD);
        behind("(((((!o*", "", DIGITS + NAMES + AHEAD);
        behind("(((((!o*-", "", DIGITS + NAMES);
        behind("((((((o)*", "", DIGITS + NAMES + AHEAD);
        behind("((((((o))))))*!!!!!", DIGITS + NAMES, AHEAD);
        behind("((((((o))))))*!!!!!!", DIGITS + NAMES, "");
        behind("!(!(!(o", "", ALL + ")");
        behind("!(!(!(o+", "", DIGITS + NAMES);
        behind("!(!(!(o)+", "", DIGITS + NAMES + AHEAD);
        behind("!(!(!(o)+!", "", DIGITS + NAMES + AHEAD);
        behind("!(!(!(o)+!-", "", DIGITS + NAMES);
    }

    private static void value(String sum, int value) {
        Script.run("7: $1 is $2", EVEN + "law(\"$1=$2\") = 1 gone(65, 3) = 1 law(\"$1=$3\") = 1 gone(65, 3) = 0", sum, value, value - 1);
    }

    private static void values() {
        String[] sums = {"9999", "0", "0000", "0009", "1000", "o", "h", "y", "p", "v", "n", "o+h", "o-h-y", "o/y/p", "o%h%y", "h*y*p",
            "h-y*p", "h*y-p", "o/h*h", "o*h/h", "2+3*4", "(2+3)*4", "10-3-2", "10-(3-2)", "9%5*2", "9*5%2",
            "7/2", "-7/2", "7/-2", "-7/-2", "7%3", "-7%3", "7%-3", "-7%-3", "1/2", "-1/2",
            "7/0", "-7/0", "0/0", "7%0", "-7%0", "0%0", "7/(o-o)", "7/0+5", "7%0+5", "5+7/0", "7/0*9", "7*0/0",
            "--7", "---7", "-0", "-2*3", "2*-3", "-(2+3)", "2--3", "2-!3"};
        int[] values = {9999, 0, 0, 9, 1000, 72, 50, 3, 2, 0, 1, 122, 19, 12, 1, 300,
            44, 148, 50, 72, 14, 20, 5, 9, 8, 1,
            3, -3, -3, 3, 1, -1, 1, -1, 0, 0,
            0, 0, 0, 0, 0, 0, 0, 5, 5, 5, 0, 0,
            7, -7, 0, -6, -6, -5, 5, 2};
        for (int i = 0; i < sums.length; i++) {
            value(sums[i], values[i]);
        }
    }

    private static void truths() {
        String[] ones = {"!0", "!-0", "!!7", "!!-7", "!(2-2)", "(5|0)", "(0|5)", "(5|7)", "(-7|0)", "(5&7)", "(-7&-7)", "(2<3)", "(-1<0)",
            "(2=2)", "(3>2)", "(0>-1)", "(1|1&0)", "(1+1=2)", "(2=1+1)", "(3&1=1)", "(1=1&3)", "(0=1|1)", "(1=0|1)", "(2<3|0)", "(!0=1)",
            "(0|0|9)", "(1&2&3)", "-(-(5|0))"};
        String[] noughts = {"!1", "!7", "!-7", "!!0", "(0|0)", "(5&0)", "(0&7)", "(0&0)", "(3<3)", "(3<2)", "(2=3)", "(3>3)", "(2>3)",
            "((1|1)&0)", "(2<3&3<2)", "(1|0)-1", "(1&2&0)", "(0&1|0)", "(0=1&1)", "!1*7"};
        for (String one : ones) {
            value(one, 1);
        }
        for (String nought : noughts) {
            value(nought, 0);
        }
        value("(1|2)+(0|4)", 2);
        value("-!0", -1);
        value("!0+!0", 2);
    }

    private static void wraps() {
        String[] so = {"$1<0", "$1-1>0", "$1=-$1", "$1/-1=$1", "$1%-1=0", "$1*2=0", "-$1<0", "0-$1<0", "8192*8192*64=0", "8192*8192*16>0",
            "$1-1+1=$1", "$1-1+$1=-1", "$1/2<0", "$1*-1=$1", "$1-1>9999", "0-1+$1>0", "9999*9999*9999<0", "$1/0=0", "$1%0=0"};
        for (String text : so) {
            Script.run("7: ints that wrap: $1", EVEN + "law(\"$1\") = 1 gone(65, 3) = 1 law(\"!($1)\") = 1 gone(65, 3) = 0", text.replace("$1", LEAST));
        }
    }

    private static void lines() {
        String[] goes = {"1", "9", "-1", "0-1", LEAST, "1;0", "0?0;1", "1?1", "1?1;0", "5?1;0", "-1?1;0", "0?1;1?1;0", "0?1;0?0;7", "o?h;0",
            "o>72?0;1", "0?0;0?0;0?0;1", "1?-1"};
        String[] stays = {"0", "-0", "1-1", "0;1", "0;1?1", "1?0", "1?0;1", "0?1", "0?1;0?1", "0?1;0;1", "0?1;1?0;1", "0?0", "o=72?0;1",
            "0?1;0?1;0?1;0?1", "9999*0", "-1?0;1"};
        for (String text : goes) {
            Script.run("7, 13: not 0: one goes back: $1", EVEN + "law(\"$1\") = 1 gone(65, 99) = 1 drawn(1, 1, 994, 0) = 396", text);
        }
        for (String text : stays) {
            Script.run("7, 13: 0, or no LINE counts: $1", EVEN + "law(\"$1\") = 1 gone(65, 0) = 0 drawn(1, 60, 4, 1) = 0", text);
        }
    }

    private static void names() {
        Script.run("7: o is cut: 9/55 of 144 is 23.6, 3/233 is 1.9", """
            thing(6, 100) = 0 open(0, 0, /) = 9/55 open(0, 1, /) = 3/233 law("o=23") = 1 gone(1, 0) = 1 gone(65, 0) = 0
            law("o=1") = 1 gone(65, 0) = 1 gone(1, 0) = 0""");
        Script.run("7: o 0 and 144 at the ends", """
            thing(0, 100) = 0 thing(144, 100) = 1 law("o=0") = 1 gone(1, 0) = 1 gone(2, 0) = 0
            law("o=144") = 1 gone(2, 0) = 1 gone(1, 0) = 0""");
        Script.run("7: o 0, though it may be open, and 143", """
            thing(1, 100) = 0 mend(0, 1, 12) mend(0, 2, 1) open(0, 1, /) = 1/1717 thing(143, 100) = 1 mend(1, 1, 1) mend(1, 2, 12)
            open(1, 1, /) = 1716/1717 law("o=0") = 1 gone(65, 0) = 1 law("o=143") = 1 gone(130, 0) = 1""");
        Script.run("7: h, y, p, n at their ends", """
            thing(72, 0) = 0 thing(72, 999) = 1 law("h=0") = 1 gone(1, 0) = 1 law("h=999") = 1 gone(2, 0) = 1 gone(3, 0) = 1
            law("y=0") = 1 gone(1, 0) = 1 gone(1, 1) = 0 law("y=99") = 1 gone(1, 99) = 1 gone(1, 98) = 0
            law("p=1") = 1 gone(1, 9) = 1 mend(0, 6, 0) = 1 law("p=0") = 1 gone(1, 9) = 1 mend(0, 6, 99) = 0
            law("p=99") = 1 gone(1, 9) = 1 law("n=1") = 1 gone(1, 0) = 1 gone(3, 0) = 0 law("n=2") = 1 gone(3, 0) = 1
            gone(2, 0) = 0 thing(1, 1) = 2 thing(1, 1) = 3 law("n=4") = 1 gone(15, 0) = 1 gone(7, 0) = 0 law("v=0") = 1
            gone(1, 0) = 1""");
    }

    private static void withoutText() {
        Script.run("7: without a text: o times h more than 288 times y times p", """
            thing(72, 8) = 0 mend(0, 1, 12) mend(0, 2, 12) gone(65, 1) = 1 gone(65, 2) = 0 gone(65, 3) = 0 gone(65, 0) = 1
            mend(0, 6, 2) = 1 gone(65, 0) = 1 gone(65, 1) = 0 mend(0, 3, 9) = 8 gone(65, 1) = 1 mend(0, 6, 0) = 2
            gone(65, 99) = 1 mend(0, 3, 0) = 9 gone(65, 99) = 0 gone(65, 0) = 0""");
        Script.run("7: o is cut there, too: 117 times 96 is 39 times 288", """
            thing(72, 96) = 0 open(0, 0, /) = 9/11 gone(1, 38) = 1 gone(1, 39) = 0 pays(0, 39) = 1 mend(0, 3, 97) = 96 gone(1, 39) = 1""");
        Script.run("7: a text that is told counts for good", """
            thing(144, 999) = 0 gone(1, 99) = 1 law("0") = 1 gone(1, 0) = 0 law("x") = -100 gone(1, 0) = 0""");
    }
}
