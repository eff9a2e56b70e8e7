/** The boundary cases of nests, expressions and conditions, a sentence of the document at a time. */
final class NestBoundsTest {
    /** As deep as a nest may lie: in five others. */
    private static final int MOST = 6;

    static void test(Checks checks) {
        testFactors(checks);
        testNots(checks);
        testDepth(checks);
        testMixed(checks);
        testSideBySide(checks);
        testPlaces(checks);
        testSum(checks);
        testFromTheLeft(checks);
        testWrap(checks);
        testMinus(checks);
        testComparisons(checks);
        testConditions(checks);
    }

    private static String round(int nests) {
        return "(".repeat(nests) + "k" + ")".repeat(nests);
    }

    private static void testFactors(Checks checks) {
        String sentence = "E is P { + P } or with - for any +; P is F { * F }; F is a number, a COL, ( E ), or - F";
        Trial.each(checks, sentence, 1, "select 1 from A", "select k from A", "select A.k from A", "select (k) from A",
                "select -k from A", "select (1) from A", "select -1 from A", "select (-1) from A", "select -(1) from A",
                "select k*k from A", "select k+k-k from A", "select (k+k)*(k-k) from A", "select k*-k from A",
                "select k--k from A", "select k+-k from A", "select ((k)) from A", "select --k from A",
                "select (k)*k-(k*(k)) from A");
        Trial.each(checks, sentence, -2, "select +k from A", "select *k from A", "select k+ from A", "select k- from A",
                "select k* from A", "select - from A", "select () from A", "select (k from A", "select k) from A",
                "select (k)) from A", "select ((k) from A", "select )k( from A", "select k++k from A",
                "select k-+k from A", "select k**k from A", "select k*+k from A", "select k k from A",
                "select 1 k from A", "select k 1 from A", "select k(k) from A", "select (k)(k) from A",
                "select (k)k from A", "select (+k) from A", "select (k+) from A", "select -+k from A",
                "select -*k from A", "select (k,k) from A", "select -() from A", "select k+() from A",
                "select (-) from A", "select [k] from A", "select {k} from A", "select k.k from A", "select k=k from A",
                "select (k=k) from A");
    }

    private static void testNots(Checks checks) {
        String sentence = "C is K { or K }; K is N { and N }; N is E = E, E < E, E > E, [ C ], or not N";
        Trial.each(checks, sentence, 1, "delete A where k=1", "delete A where k<2", "delete A where k>0",
                "delete A where[k=1]", "delete A where not k=2", "delete A where k=1 or k=2",
                "delete A where k=1 and v=2", "delete A where not[k=2]", "delete A where[not k=2]",
                "delete A where[k=1]or[k=2]", "delete A where[[k=1]and[v=2]]", "delete A where not not k=1",
                "delete A where k=1 and not k=2 or not v=2", "delete A where(k)=(1)", "delete A where k+0=1*1",
                "delete A where-k<-k+1");
        Trial.each(checks, sentence, -2, "delete A where", "delete A where k", "delete A where k=", "delete A where =1",
                "delete A where k=1=1", "delete A where k<1<2", "delete A where k==1", "delete A where k=<1",
                "delete A where k<>1", "delete A where (k=1)", "delete A where [k]=1", "delete A where [k=1",
                "delete A where k=1]", "delete A where []", "delete A where not", "delete A where not k",
                "delete A where k not =1", "delete A where not or k=1", "delete A where or k=1",
                "delete A where and k=1", "delete A where k=1 or", "delete A where k=1 and",
                "delete A where k=1 or or k=2", "delete A where k=1 and and k=1", "delete A where k=1 or and k=2",
                "delete A where k=1 k=1", "delete A where k=1 not k=2", "delete A where k=1[k=1]",
                "delete A where[k=1][k=1]", "delete A where k or v=1", "delete A where k=1 or v",
                "delete A where [k=1 or]", "delete A where [or k=1]", "delete A where k=[1]", "delete A where k=not 1",
                "delete A where -[k=1]", "delete A where [k=1]+1=1", "delete A where 1", "delete A where k,v",
                "delete A where k=1,v=2", "delete A where [k=1]=[k=1]");
    }

    private static void testDepth(Checks checks) {
        String sentence = "an F ( E ) or - F, an N [ C ] or not N, is a NEST; a nest lies in at most 5 others";
        for (int nests = 0; nests < 10; nests++) {
            int due = nests <= MOST ? 1 : -2;
            Trial.each(checks, sentence, due, "select " + round(nests) + " from A",
                    "select " + "-".repeat(nests) + "k from A",
                    "delete A where " + "[".repeat(nests) + "k=1" + "]".repeat(nests),
                    "delete A where " + "not ".repeat(nests) + (nests % 2 == 0 ? "1=1" : "1=2"));
        }
        Trial.each(checks, sentence, -2, "select " + "-".repeat(65) + "k from A", "select " + round(32) + " from A",
                "delete A where " + "[".repeat(31) + "k=1" + "]".repeat(31), "select " + "(".repeat(73),
                "delete A where " + "not ".repeat(15) + "1=1", "delete A where " + "[".repeat(65),
                "select " + "-".repeat(73));
    }

    /** Nests of all kinds count together. */
    private static void testMixed(Checks checks) {
        String sentence = "a nest lies in at most 5 others, of whatever kinds";
        for (int nests = 2; nests < 9; nests++) {
            int due = nests <= MOST ? 1 : -2;
            for (int outer = 0; outer <= nests; outer++) {
                int inner = nests - outer;
                Trial.each(checks, sentence, due, "select " + "-".repeat(outer) + round(inner) + " from A",
                        "select " + "(".repeat(outer) + "-".repeat(inner) + "k" + ")".repeat(outer) + " from A",
                        "delete A where " + "[".repeat(outer) + round(inner) + "=1" + "]".repeat(outer),
                        "delete A where " + "[".repeat(outer) + "k<" + round(inner) + "+1" + "]".repeat(outer),
                        "delete A where " + "[".repeat(outer) + "k>" + "-".repeat(inner) + "0" + "]".repeat(outer),
                        "delete A where " + "[".repeat(outer) + "not ".repeat(inner)
                                + (inner % 2 == 0 ? "1=1" : "1=2") + "]".repeat(outer),
                        "delete A where " + "not ".repeat(outer) + round(inner) + (outer % 2 == 0 ? "=1" : "=2"));
            }
        }
        Trial.each(checks, sentence, 1, "select -(-(-(k))) from A", "delete A where not[not[-(k)=-1]]");
        Trial.each(checks, sentence, -2, "select -(-(-(-k))) from A", "delete A where not[not[--(k)=1]]",
                "delete A where not[not[k=-(-1)]]");
    }

    private static void testSideBySide(Checks checks) {
        String sentence = "nests side by side do not lie in one another";
        String most = round(MOST);
        String more = round(MOST + 1);
        Trial.each(checks, sentence, 1, "select " + most + "+" + most + "*" + most + " from A",
                "select " + most + "," + most + "," + most + " from A", "select ------k-------k*------k from A",
                "select k from A where " + most + "=" + most, "select (k)+(k)+(k)+(k)+(k)+(k)+(k)+(k)+(k)+(k)from A",
                "select -k-(-k)*-k+-k*-k*-k--k--k--k--k from A", "select (((((k)+(k))+(k)))-(((((k)))))) from A",
                "delete A where not k=2 and not k=3 and not k=4 and not k=5 and not k=6",
                "select ((((((k+v)*w)+k)*v)+w)) from A",
                "delete A where[k=1]and[k=1]and[k=1]and[k=1]and[k=1]and[k=1]and[k=1]and[k=1]");
        Trial.each(checks, sentence, -2, "select " + most + "+" + more + " from A",
                "select " + more + "*" + most + " from A", "select k," + most + "," + more + " from A",
                "select ------k--------k from A", "select k from A where " + most + "=" + more,
                "select k from A where " + more + "=" + most,
                "delete A where not not not not not not k=1 or not not not not not not not k=1",
                "select (((((k)+(k))+(k)))-((((((k))))))) from A");
    }

    /** Wherever an E or a C stands, its nests lie in no others. */
    private static void testPlaces(Checks checks) {
        String sentence = "a nest lies in at most 5 others, wherever the E or the C stands";
        for (int nests = MOST; nests <= MOST + 1; nests++) {
            int due = nests == MOST ? 1 : -2;
            String one = "-".repeat(nests) + "1";
            String condition = "[".repeat(nests) + "1=1" + "]".repeat(nests);
            Trial.each(checks, sentence, due, "insert B " + one + ",1,1", "insert B 1," + one + ",1",
                    "insert B 1,1," + one, "update A v=" + one, "update A v=1 where k>0*" + one,
                    "update A w=1 where " + condition, "delete A where 0*" + one + "<k", "delete A where " + condition,
                    "select " + one + ",k,k from A", "select k," + one + ",k from A", "select k,k," + one + " from A",
                    "select k from A order " + one, "select k from A where " + condition,
                    "select top k from A where " + condition + " group v order k desc");
        }
    }

    private static void testSum(Checks checks) {
        String sentence = "sum ( E ) is no nest";
        for (int nests = 0; nests < 9; nests++) {
            int due = nests <= MOST ? 1 : -2;
            Trial.each(checks, sentence, due, "select sum(" + round(nests) + ") from A",
                    "select sum(" + "-".repeat(nests) + "k) from A",
                    "select k from A order sum(" + round(nests) + ") desc",
                    "select k,sum(k),sum(" + round(nests) + ") from A");
        }
    }

    private static void testFromTheLeft(Checks checks) {
        String sentence = "+ - * are worked out from the left";
        Trial.worth(checks, sentence, "7-2-1", 4);
        Trial.worth(checks, sentence, "7-2+1", 6);
        Trial.worth(checks, sentence, "7-(2+1)", 4);
        Trial.worth(checks, sentence, "7+2-1-2+3", 9);
        Trial.worth(checks, sentence, "0-1-2-3-4", -10);
        Trial.worth(checks, sentence, "9-(8-(7-6))", 2);
        sentence = "P is F { * F }, E is P { + P }";
        Trial.worth(checks, sentence, "2+3*4", 14);
        Trial.worth(checks, sentence, "2*3+4", 10);
        Trial.worth(checks, sentence, "2*(3+4)", 14);
        Trial.worth(checks, sentence, "20-2*3*2-1", 7);
        Trial.worth(checks, sentence, "(20-2)*3", 54);
        Trial.worth(checks, sentence, "2*3-4*5+6*7", 28);
    }

    private static void testWrap(Checks checks) {
        String sentence = "+ - * wrap";
        Trial.worth(checks, sentence, "46340*46340", 2147395600);
        Trial.worth(checks, sentence, "46341*46341", -2147479015);
        Trial.worth(checks, sentence, "65536*32768-1", 2147483647);
        Trial.worth(checks, sentence, "65536*32768-1+1", -2147483648);
        Trial.worth(checks, sentence, "-65536*32768", -2147483648);
        Trial.worth(checks, sentence, "-65536*32768-1", 2147483647);
        Trial.worth(checks, sentence, "65536*65536", 0);
        Trial.worth(checks, sentence, "65536*65535", -65536);
        Trial.worth(checks, sentence, "999999999+999999999+147483649", 2147483647);
        Trial.worth(checks, sentence, "999999999+999999999+147483650", -2147483648);
        Trial.worth(checks, sentence, "0-999999999-999999999-147483650", -2147483648);
        Trial.worth(checks, sentence, "0-999999999-999999999-147483651", 2147483647);
        Trial.worth(checks, sentence, "999999999*999999999", 808348673);
        new Trial(checks, "sum wraps, too, and the values of updates do", 0, 0, 0, 0)
                .run(0, "insert A 1,65536*32768-1,-65536*32768", 1).run(0, "insert A 2,1,-1", 1)
                .select(0, "select sum(v),sum(w) from A", "-2147483648 2147483647").run(0, "update A v=v+1", 2)
                .run(0, "update A w=w-1", 2).sees(0, Trial.A, "1 -2147483648 2147483647 0; 2 2 -2 0");
    }

    private static void testMinus(Checks checks) {
        String sentence = "- F is 0 less F";
        Trial.worth(checks, sentence, "-5", -5);
        Trial.worth(checks, sentence, "-0", 0);
        Trial.worth(checks, sentence, "--5", 5);
        Trial.worth(checks, sentence, "-(65536*32768)", -2147483648);
        Trial.worth(checks, sentence, "-(65536*32768-1)", -2147483647);
        Trial.worth(checks, sentence, "-2+5", 3);
        Trial.worth(checks, sentence, "-(2+5)", -7);
        Trial.worth(checks, sentence, "-2*5", -10);
        Trial.worth(checks, sentence, "5--2", 7);
        Trial.worth(checks, sentence, "5+-2", 3);
        Trial.worth(checks, sentence, "5*-2", -10);
        Trial.worth(checks, sentence, "-2-3", -5);
    }

    private static void testComparisons(Checks checks) {
        String sentence = "N is E = E, E < E, E > E";
        Trial.each(checks, sentence, 1, "delete A where v=2", "delete A where v<3", "delete A where v>1",
                "delete A where 2=v", "delete A where 3>v", "delete A where -v<0-1", "delete A where k+v=w",
                "delete A where -1>-2", "delete A where 0=-0", "delete A where -65536*32768<65536*32768-1",
                "delete A where 65536*32768-1>-65536*32768", "delete A where -65536*32768<0",
                "delete A where 65536*32768=-65536*32768");
        Trial.each(checks, sentence, 0, "delete A where v=1", "delete A where v=3", "delete A where v<2",
                "delete A where v<1", "delete A where v>2", "delete A where v>3", "delete A where 0<0",
                "delete A where 0>0", "delete A where 65536*32768-1<-65536*32768",
                "delete A where -65536*32768>65536*32768-1", "delete A where -65536*32768>1",
                "delete A where 65536*32768-1=-65536*32768");
    }

    /** T is 1=1 and F is 1=2; the answer tells which the whole is. */
    private static void testConditions(Checks checks) {
        String[] cases = {
            "1 T", "0 F", "0 not T", "1 not F", "1 not not T", "1 T and T", "0 T and F", "0 F and T", "0 F and F",
            "1 T or T",
            "1 T or F", "1 F or T", "0 F or F", "1 T or F and F", "1 F and F or T", "0 [ T or F ] and F",
            "0 F and [ F or T ]",
            "1 not F and T", "0 not [ F or T ]", "1 not F or T", "0 not [ not F or T ]", "1 not [ F and T ]",
            "0 not T and F",
            "1 not [ T and F ]", "1 not F and not F", "1 F and T or T", "1 T or T and F", "0 F or T and F",
            "1 F or F or T",
            "0 T and T and F", "1 T and T and T", "0 [ F ]", "1 [ T ]", "0 [ T ] and [ F ]", "1 not T or T",
            "1 T and not F",
        };
        for (String one : cases) {
            String condition = one.substring(2).replace("T", "1=1").replace("F", "1=2");
            Trial.each(checks, "C is K { or K }; K is N { and N }; N is [ C ] or not N", one.charAt(0) - '0',
                    "delete A where " + condition, "select k from A where " + condition,
                    "update A v=1 where " + condition);
        }
    }
}
