/** The boundary cases of select, a sentence of the document at a time. */
final class SelectBoundsTest {
    static void test(Checks checks) {
        testFound(checks);
        testPairs(checks);
        testTop(checks);
        testTopOfPairs(checks);
        testGroups(checks);
        testOneGroup(checks);
        testEachAGroup(checks);
        testValues(checks);
        testOrder(checks);
        testAlike(checks);
        testMostFound(checks);
        testMostFoundInGroups(checks);
        testMostFoundWithTop(checks);
    }

    private static void testFound(Checks checks) {
        new Trial(checks, "FOUND are the rows that it sees for which C is true, in the order of the rows", 1, 2, 3, 0)
                .select(2, "select k from A", "").run(2, "insert A 5,3,3", 1).run(1, "insert A 5,2,2", 1)
                .run(0, "insert A 7,1,1", 1).run(3, "insert A -5,0,0", 1)
                .select(2, "select k,lab from A", "-5 0; 5 2; 5 3; 7 1").select(0, "select k,lab from A", "-5 0; 7 1")
                .select(3, "select k from A", "-5").select(3, "select k from B", "")
                .select(2, "select k,v from A where k=5", "5 2; 5 3").select(2, "select k from A where 1=2", "")
                .select(2, "select k from A where 1=1", "-5; 5; 5; 7").select(2, "select k,v from A where lab>v", "")
                .select(2, "select k,v from A where lab=v", "-5 0; 5 2; 5 3; 7 1");
    }

    private static void testPairs(Checks checks) {
        new Trial(checks,
                "the pairs of a row of the first and one of the second, in the order of the rows (of the first, then of"
                + " the second)", 1, 0, 0, 0)
                .select(0, "select 1 from A,B", "").fill(0, "A", 1, 2).select(0, "select 1 from A,B", "")
                .select(0, "select 1 from B,A", "").fill(0, "B", 3, 5).fill(1, "B", 4, 4)
                .select(0, "select A.k,B.k,B.lab from A,B", "1 3 1; 1 4 0; 1 4 1; 1 5 1; 2 3 1; 2 4 0; 2 4 1; 2 5 1")
                .select(0, "select A.k,B.k,B.lab from B,A", "1 3 1; 2 3 1; 1 4 0; 2 4 0; 1 4 1; 2 4 1; 1 5 1; 2 5 1")
                .select(0, "select A.k,B.k from A,B where A.k+B.k=6", "1 5; 2 4; 2 4")
                .select(1, "select B.k from B,A", "").select(0, "select B.k from A,B where A.k=2 and B.lab=0", "4")
                .select(0, "select 1 from A,B where A.k=B.k", "");
    }

    /** Rows of one key at the labels 1, 3, 4 and 7, and what is on top for each of them. */
    private static void testTop(Checks checks) {
        Trial trial = new Trial(checks,
                "with top a row counts only if it sees no row of the same table and key whose label is"
                + " another one that dominates its label", 1, 3, 4, 7);
        trial.fill(0, "A", 5, 5).select(0, "select top lab from A", "1").select(1, "select top lab from A", "1");
        trial.fill(1, "A", 5, 5).select(0, "select top lab from A", "1").select(1, "select top lab from A", "3");
        trial.fill(2, "A", 5, 5).select(2, "select top lab from A", "4").select(3, "select top lab from A", "3; 4");
        trial.fill(3, "A", 6, 6).select(3, "select top k,lab from A", "5 3; 5 4; 6 7").fill(3, "A", 5, 5);
        trial.select(3, "select top k,lab from A", "5 7; 6 7").select(3, "select lab from A where k=5", "1; 3; 4; 7");
        trial.select(1, "select top lab from A", "3").select(0, "select top lab from A", "1")
                .select(2, "select top lab from A", "4");
        // Only rows of the same table and the same key stand above one.
        trial.fill(3, "B", 8, 8).fill(0, "A", 8, 8).fill(1, "A", 9, 9).fill(0, "A", 10, 10);
        trial.select(3, "select top k,lab from A", "5 7; 6 7; 8 1; 9 3; 10 1")
                .select(3, "select top k,lab from B", "8 7");
        // What C says of the row above does not matter.
        trial.select(3, "select top lab from A where k=5 and lab<7", "")
                .select(3, "select top lab from A where lab=1", "1; 1");
        // The rows of the transaction are those that are seen.
        trial.begin(3, 0).run(3, "delete A where k=5", 1).select(3, "select top lab from A where k=5", "3; 4");
        trial.run(3, "insert A 8,0,0", 1).select(3, "select top lab from A where k=8", "7").abort(3, 0);
        trial.select(3, "select top lab from A where k=8", "1").select(3, "select top lab from A where k=5", "7");
        trial.begin(1, 0).run(1, "insert A 10,0,0", 1).select(3, "select top lab from A where k=10", "1").commit(1, 2);
        trial.select(3, "select top lab from A where k=10", "3");
    }

    private static void testTopOfPairs(Checks checks) {
        new Trial(checks, "with top, with two tables each of both counts only so, whatever C says of the other one",
                0, 1, 1, 1)
                .fill(0, "A", 1, 2).fill(1, "A", 1, 1).fill(0, "B", 1, 2).fill(1, "B", 2, 2)
                .select(1, "select top A.k,A.lab,B.k*10+B.lab from A,B", "1 1 10; 1 1 21; 2 0 10; 2 0 21")
                .select(1, "select top A.k,A.lab,B.k*10+B.lab from B,A", "1 1 10; 2 0 10; 1 1 21; 2 0 21")
                .select(1, "select top A.lab,B.lab from A,B where A.lab=B.lab", "1 1; 0 0")
                .select(1, "select top A.lab from A,B where A.lab=0 and A.k=1", "")
                .select(1, "select top B.lab from A,B where B.lab=0 and B.k=2", "")
                .select(1, "select top B.lab from A,B where B.lab=0 and A.lab=1", "0")
                .select(0, "select top A.k,B.k from A,B", "1 1; 1 2; 2 1; 2 2").select(1, "select count from A,B", "9");
    }

    private static void testGroups(Checks checks) {
        new Trial(checks,
                "with group the found ones are parted into GROUPS with the same value of COL, in the order in which"
                + " their first ones come", 0, 0, 0, 0)
                .select(0, "select v from A group v", "").run(0, "insert A 1,9,65536*32768", 1)
                .select(0, "select v,count from A group v", "9 1").run(0, "insert A 2,8,65536*32768-1", 1)
                .run(0, "insert A 3,9,65536*32768", 1).run(0, "insert A 4,7,0", 1)
                .run(0, "insert A 5,8,65536*32768-1", 1).run(0, "insert A 6,9,0", 1)
                .select(0, "select v,count,k from A group v", "9 3 1; 8 2 2; 7 1 4")
                .select(0, "select w,count,k from A group w", "-2147483648 2 1; 2147483647 2 2; 0 2 4")
                .select(0, "select k,count from A group k", "1 1; 2 1; 3 1; 4 1; 5 1; 6 1")
                .select(0, "select count,sum(k) from A group lab", "6 21")
                .select(0, "select v from A group v", "9; 8; 7")
                .select(0, "select v,count from A where k>1 group v", "8 2; 9 2; 7 1")
                .select(0, "select 1 from A where k=9 group v", "")
                .select(0, "select k from A group v order count", "4; 2; 1").fill(0, "B", 1, 2)
                .select(0, "select A.v,B.k,count from A,B group A.v", "9 1 6; 8 1 4; 7 1 2")
                .select(0, "select A.v,B.k,count from A,B group B.k", "9 1 6; 9 2 6");
    }

    private static void testOneGroup(Checks checks) {
        new Trial(checks,
                "without group, when an X (of order, too) is count or sum, all found ones are one group,"
                + " if there are some", 0, 0, 0, 0)
                .select(0, "select count from A", "").select(0, "select sum(k) from A", "")
                .select(0, "select 1 from A order count", "").select(0, "select 1 from A order sum(1)", "")
                .fill(0, "A", 3, 3).select(0, "select count from A", "1").fill(0, "A", 4, 5)
                .select(0, "select count from A", "3").select(0, "select k,v,count from A", "3 0 3")
                .select(0, "select k,sum(k) from A", "3 12").select(0, "select k from A order count", "3")
                .select(0, "select k,v from A order sum(k) desc", "3 0").select(0, "select count from A where k>5", "")
                .select(0, "select sum(k),k from A where k=9", "").select(0, "select k,count from A where k>3", "4 2")
                .select(0, "select count from A order k", "3");
    }

    private static void testEachAGroup(Checks checks) {
        new Trial(checks, "otherwise each is a group", 0, 0, 0, 0).select(0, "select 1 from A", "").fill(0, "A", 3, 5)
                .select(0, "select 1 from A", "1; 1; 1").select(0, "select v from A", "0; 0; 0")
                .select(0, "select k from A order v", "3; 4; 5").fill(0, "B", 1, 2)
                .select(0, "select A.k from A,B", "3; 3; 4; 4; 5; 5")
                .select(0, "select lab,lab,lab from B", "0 0 0; 0 0 0");
    }

    private static void testValues(Checks checks) {
        new Trial(checks,
                "count is how many are in it, sum the sum of E for all in it (it wraps), an E its value for the first"
                + " of it", 0, 0, 0, 0)
                .run(0, "insert A 1,65536*32768-1,1", 1).run(0, "insert A 2,2,2", 1).run(0, "insert A 3,-5,1", 1)
                .select(0, "select count,sum(v),v from A", "3 2147483644 2147483647")
                .select(0, "select count,sum(v),v from A where k<3", "2 -2147483647 2147483647")
                .select(0, "select count,sum(v),v from A where k>1", "2 -3 2")
                .select(0, "select w,count,sum(v+k) from A group w", "1 2 2147483646; 2 1 4")
                .select(0, "select sum(-v),sum(2),sum(w*w) from A", "-2147483644 6 6")
                .select(0, "select k*2,v-w from A group w", "2 2147483646; 4 0").select(0, "select sum(0) from A", "0")
                .select(0, "select 7,count,8 from A group w", "7 2 8; 7 1 8");
    }

    private static void testOrder(Checks checks) {
        new Trial(checks,
                "with order they are by the value of the X behind order, the least first"
                + " (with desc the greatest first)", 0, 0, 0, 0)
                .run(0, "insert A 1,0,1", 1).run(0, "insert A 2,65536*32768-1,1", 1).run(0, "insert A 3,-1,1", 1)
                .run(0, "insert A 4,65536*32768,2", 1).run(0, "insert A 5,1,2", 1)
                .select(0, "select k from A", "1; 2; 3; 4; 5").select(0, "select k from A order v", "4; 3; 1; 5; 2")
                .select(0, "select k from A order v desc", "2; 5; 1; 3; 4")
                .select(0, "select k from A order -k", "5; 4; 3; 2; 1")
                .select(0, "select k from A order -k desc", "1; 2; 3; 4; 5")
                .select(0, "select w from A group w order count", "2; 1")
                .select(0, "select w from A group w order count desc", "1; 2")
                .select(0, "select w from A group w order sum(k) desc", "2; 1")
                .select(0, "select w from A group w order sum(k)", "1; 2")
                .select(0, "select w from A group w order v", "2; 1")
                .select(0, "select w from A group w order k desc", "2; 1")
                .select(0, "select v from A where k=5 order v", "1").select(0, "select v from A where k=9 order v", "")
                .select(0, "select k from A", "1; 2; 3; 4; 5").fill(0, "B", 1, 2)
                .select(0, "select A.k,B.k from A,B where A.k<3 order B.k desc", "1 2; 2 2; 1 1; 2 1");
    }

    private static void testAlike(Checks checks) {
        new Trial(checks, "those alike as they were", 0, 0, 0, 0)
                .run(0, "insert A 1,2,1", 1).run(0, "insert A 2,1,2", 1).run(0, "insert A 3,2,3", 1)
                .run(0, "insert A 4,1,1", 1).run(0, "insert A 5,2,2", 1).run(0, "insert A 6,1,3", 1)
                .select(0, "select k from A order v", "2; 4; 6; 1; 3; 5")
                .select(0, "select k from A order v desc", "1; 3; 5; 2; 4; 6")
                .select(0, "select k from A order 0", "1; 2; 3; 4; 5; 6")
                .select(0, "select k from A order 0 desc", "1; 2; 3; 4; 5; 6")
                .select(0, "select w from A group w order count", "1; 2; 3")
                .select(0, "select w from A group w order count desc", "1; 2; 3")
                .select(0, "select w from A group w order sum(v)", "1; 2; 3");
    }

    /** A has 7 rows and B 6 for session 1, which finds by C just as many pairs as it says. */
    private static Trial filled(Checks checks, String sentence) {
        return new Trial(checks, sentence, 0, 1, 1, 1).fill(0, "A", 1, 6).fill(0, "B", 1, 6).fill(1, "A", 7, 7);
    }

    private static void testMostFound(Checks checks) {
        filled(checks, "how many; -7 when more than 40 are FOUND")
                .run(1, "select A.k,B.k from A,B where A.k<7 or B.k<4", 39).results(1, 39)
                .run(1, "select A.k,B.k from A,B where A.k<7 or B.k<5", 40).results(1, 40).value(1, 39, 0, 7)
                .value(1, 39, 1, 4).value(1, 38, 1, 3).value(1, 35, 1, 6).value(1, 0, 0, 1).value(1, 40, 0, 0)
                .run(1, "select B.k from A,B where A.k<7 or B.k<6", -7).results(1, 40).value(1, 39, 0, 7)
                .value(1, 39, 1, 4).run(1, "select B.k from A,B", -7).results(1, 40).value(1, 39, 1, 4)
                .run(0, "select 1 from A,B", 36).results(0, 36)
                .run(1, "select A.k from B,A where A.k<7 or B.k<5 order A.k desc", 40).value(1, 0, 0, 7)
                .value(1, 39, 0, 1).run(1, "select A.k from B,A where A.k<7 or B.k<6 order A.k desc", -7)
                .value(1, 0, 0, 7);
    }

    private static void testMostFoundInGroups(Checks checks) {
        filled(checks, "-7 when more than 40 are FOUND, however few groups they make")
                .select(1, "select count,sum(1) from A,B where A.k<7 or B.k<5", "40 40")
                .run(1, "select count,sum(1) from A,B where A.k<7 or B.k<6", -7).gave(1, "40 40")
                .run(1, "select count from A,B", -7).run(1, "select 1 from A,B order count", -7)
                .run(1, "select count from A,B group A.v", -7).gave(1, "40 40")
                .select(1, "select A.v,count from A,B where A.k<7 or B.k<5 group A.v", "0 40")
                .run(1, "select A.v,count from A,B where A.k<7 or B.k<6 group A.v", -7).gave(1, "0 40")
                .select(1, "select A.lab,count from A,B where A.k<7 or B.k<5 group A.lab", "0 36; 1 4");
    }

    private static void testMostFoundWithTop(Checks checks) {
        filled(checks, "with top only rows that count are found").fill(1, "B", 6, 6)
                .run(1, "select 1 from A,B where A.k<7 or B.k<5", -7)
                .run(1, "select top B.lab from A,B where A.k<7 or B.k<5", 40).results(1, 40).value(1, 5, 0, 1)
                .run(1, "select top B.lab from A,B where A.k<7 or B.k<6", -7).results(1, 40)
                .run(1, "select top count from A,B", -7).run(1, "delete A where k=7", 1).fill(1, "A", 6, 6)
                .run(1, "select count from A,B", -7).select(1, "select top count from A,B", "36")
                .run(1, "select top 1 from A,B", 36);
    }
}
