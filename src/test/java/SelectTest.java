/** Promise 3 (select), 15 and 16. */
final class SelectTest {
    static void test(Checks checks) {
        testRows(checks);
        testPairs(checks);
        testTop(checks);
        testSummaries(checks);
        testGroups(checks);
        testOrder(checks);
        testTooMany(checks);
        testResultsStay(checks);
        testOutside(checks);
    }

    /** Rows at the labels 0 to 3; session 3 sees all of them, sessions 1 and 2 see 0 and their own. */
    private static Trial filled(Checks checks, String name) {
        return new Trial(checks, name, 0, 1, 2, 3)
                .run(3, "insert A 1,30,5", 1).run(1, "insert A 1,10,5", 1).run(0, "insert A 1,0,6", 1)
                .run(2, "insert A 2,20,6", 1).run(0, "insert A 2,40,5", 1).run(0, "insert A 3,50,9", 1)
                .run(0, "insert B 2,7,8", 1).run(3, "insert B 1,9,9", 1).run(3, "insert B 2,0,0", 1);
    }

    private static void testRows(Checks checks) {
        filled(checks, "promise 3: select of rows that are seen")
                .select(3, "select k,v,lab from A", "1 0 0; 1 10 1; 1 30 3; 2 40 0; 2 20 2; 3 50 0")
                .select(0, "select k,v,lab from A", "1 0 0; 2 40 0; 3 50 0")
                .select(1, "select k,v,lab from A", "1 0 0; 1 10 1; 2 40 0; 3 50 0")
                .select(2, "select k,v,lab from A", "1 0 0; 2 40 0; 2 20 2; 3 50 0")
                .select(3, "select v+w*k from A where w=5 and k<2 or lab=2", "15; 35; 32")
                .select(3, "select 1,k from A where v>999", "").select(0, "select w from B", "8")
                .select(3, "select A.w,-k from A where A.v=50", "9 -3").results(2, 4);
    }

    private static void testPairs(Checks checks) {
        filled(checks, "promise 3: select of pairs")
                .select(3, "select A.v,B.v,A.k+B.k*10 from A,B where A.k=B.k",
                        "0 9 11; 10 9 11; 30 9 11; 40 7 22; 40 0 22; 20 7 22; 20 0 22")
                .select(3, "select A.v,B.v from B,A where A.k=B.k",
                        "0 9; 10 9; 30 9; 40 7; 20 7; 40 0; 20 0")
                .select(0, "select A.v,B.v from A,B", "0 7; 40 7; 50 7").select(0, "select A.v from B,A", "0; 40; 50")
                .select(1, "select A.lab,B.lab from A,B where A.lab>B.lab", "1 0")
                .select(3, "select count from A,B", "18").select(3, "select count,1 from A,B where A.k=9", "");
        new Trial(checks, "promise 3: pairs with an empty table", 0, 0, 0, 0)
                .run(0, "insert A 1,1,1", 1).select(0, "select A.k from A,B", "").select(0, "select A.k from B,A", "")
                .select(0, "select top A.k from A,B", "").select(0, "select top B.k from B,A", "");
    }

    private static void testTop(Checks checks) {
        filled(checks, "promise 3: top")
                .select(3, "select top k,v,lab from A", "1 30 3; 2 20 2; 3 50 0")
                .select(0, "select top k,v,lab from A", "1 0 0; 2 40 0; 3 50 0")
                .select(1, "select top k,v,lab from A", "1 10 1; 2 40 0; 3 50 0")
                .select(3, "select top k from A where lab<3", "2; 3").select(3, "select top k from A where k=1 and lab=0", "")
                .select(3, "select top A.v,B.v from A,B where A.k=B.k", "30 9; 20 0")
                .select(3, "select top A.v,B.v from A,B where B.lab=0", "").select(3, "select top count from A", "3")
                .select(3, "select top A.v,B.v from A,B", "30 9; 30 0; 20 9; 20 0; 50 9; 50 0");
        // Labels that do not dominate one another do not hide one another's rows.
        new Trial(checks, "promise 3: top with labels side by side", 1, 2, 4, 7)
                .run(0, "insert A 1,1,1", 1).run(1, "insert A 1,2,2", 1).run(2, "insert A 1,3,3", 1)
                .select(3, "select top lab from A", "1; 2; 4").run(3, "insert A 2,4,4", 1)
                .select(3, "select top lab from A", "1; 2; 4; 7").begin(3, 0).run(3, "insert A 1,4,4", 1)
                .select(3, "select top lab from A", "7; 7").select(2, "select top lab from A", "4").abort(3, 0)
                .select(3, "select top lab from A", "1; 2; 4; 7");
        // A row that is not seen hides nothing, nor does one of the other table.
        new Trial(checks, "promise 3: top sees what the session sees", 1, 3, 5, 7)
                .run(0, "insert A 1,1,1", 1).run(1, "insert A 1,2,2", 1).run(3, "insert B 1,2,2", 1)
                .select(0, "select top lab from A", "1").select(2, "select top lab from A", "1")
                .select(3, "select top lab from A", "3").run(2, "insert A 1,3,3", 1)
                .select(3, "select top lab from A", "3; 5").run(1, "delete A", 1).select(3, "select top lab from A", "5");
    }

    private static void testSummaries(Checks checks) {
        filled(checks, "promise 3: count and sum")
                .select(3, "select count,sum(v),sum(w*2+1) from A", "6 150 78")
                .select(3, "select k,count,v from A where k>1", "2 3 40").select(3, "select sum(-k) from A where v=10", "-1")
                .select(3, "select count from A where k=9", "").select(3, "select sum(k),count from A where k=9", "")
                .select(3, "select v from A order count", "0").select(3, "select v,k from A order sum(v) desc", "0 1")
                .select(3, "select sum(999999999) from A", "1705032698")
                .select(3, "select sum(A.v*B.v),count from A,B where A.k=B.k", "780 7")
                .select(3, "select 5 from A", "5; 5; 5; 5; 5; 5").select(3, "select 5,count from A", "5 6");
    }

    private static void testGroups(Checks checks) {
        filled(checks, "promise 3: groups")
                .select(3, "select w,count,sum(v) from A group w", "6 2 20; 5 3 80; 9 1 50")
                .select(3, "select w from A group w", "6; 5; 9").select(3, "select v,k from A group k", "0 1; 40 2; 50 3")
                .select(3, "select lab,count from A group lab", "0 3; 1 1; 3 1; 2 1")
                .select(3, "select k,count from A where v>10 group A.k", "1 1; 2 2; 3 1")
                .select(3, "select B.k,count,sum(A.v) from A,B group B.k", "1 6 150; 2 12 300")
                .select(3, "select B.k,count from B,A group A.k", "1 9; 1 6; 1 3")
                .select(3, "select k from A where k=9 group k", "").select(3, "select top w,count from A group w", "5 1; 6 1; 9 1");
    }

    private static void testOrder(Checks checks) {
        filled(checks, "promise 3: order")
                .select(3, "select v from A order v", "0; 10; 20; 30; 40; 50")
                .select(3, "select v from A order v desc", "50; 40; 30; 20; 10; 0")
                .select(3, "select v,w from A order w", "10 5; 30 5; 40 5; 0 6; 20 6; 50 9")
                .select(3, "select v,w from A order w desc", "50 9; 0 6; 20 6; 10 5; 30 5; 40 5")
                .select(3, "select v from A order 0-k", "50; 40; 20; 0; 10; 30")
                .select(3, "select v from A order 1 desc", "0; 10; 30; 40; 20; 50")
                .select(3, "select k,count from A group k order count", "3 1; 2 2; 1 3")
                .select(3, "select k from A group k order sum(v) desc", "2; 3; 1")
                .select(3, "select w,v from A group w order v", "6 0; 5 10; 9 50")
                .select(3, "select A.v from A,B where B.v=9 order A.v*B.v desc", "50; 40; 30; 20; 10; 0");
        // Differences of these wrap, but the values stand in order.
        new Trial(checks, "promise 3: order of the greatest and the least", 0, 0, 0, 0)
                .run(0, "insert A 1,65536*32768,0", 1).run(0, "insert A 2,65536*32768-1,0", 1).run(0, "insert A 3,0,0", 1)
                .run(0, "insert A -65536*32768,1,0", 1).run(0, "insert A 65536*32768-1,2,0", 1)
                .select(0, "select k,v from A order v",
                        "1 -2147483648; 3 0; -2147483648 1; 2147483647 2; 2 2147483647")
                .select(0, "select k from A order v desc", "2; 2147483647; -2147483648; 3; 1")
                .select(0, "select k from A where k<v", "-2147483648; 2");
    }

    private static void testTooMany(Checks checks) {
        Trial trial = new Trial(checks, "promise 3: at most 40 are found", 0, 1, 3, 3);
        for (int k = 1; k <= 6; k++) {
            trial.run(0, "insert A " + k + ",0,0", 1).run(0, "insert B " + k + ",0,0", 1);
        }
        trial.select(0, "select count from A,B", "36");
        trial.run(1, "insert A 1,0,0", 1).run(2, "select count from A,B", -7).results(2, 0);
        trial.select(2, "select count from A,B where A.k<6 or B.k<5", "40");
        trial.run(2, "select A.k from A,B where A.k<6 or B.k<6", -7).gave(2, "40");
        trial.run(2, "select 1 from A,B where A.k<6 or B.k<6 group A.v", -7).gave(2, "40");
        trial.select(2, "select top count from A,B", "36").run(0, "select count from A,B", 1).gave(0, "36");
        trial.run(2, "select A.k,B.k,A.lab from A,B where A.k<6 or B.k<5", 40).results(2, 40);
        trial.value(2, 0, 1, 1).value(2, 39, 0, 6).value(2, 39, 1, 4).value(2, 6, 2, 1).value(2, 40, 0, 0);
        trial.run(2, "select A.k,B.k from A,B order A.k", -7).value(2, 39, 1, 4);
    }

    private static void testResultsStay(Checks checks) {
        filled(checks, "promise 3: results stay but for a select that answers 0 or more")
                .select(3, "select k,v from A where lab=3", "1 30").select(0, "select v from B", "7")
                .run(3, "selec", -2).gave(3, "1 30").run(3, "select B.k from A", -3).gave(3, "1 30")
                .run(3, "insert A 9,9,9", 1).gave(3, "1 30").run(3, "insert A 9,9,9", -4).gave(3, "1 30")
                .run(3, "update A v=v+1 where lab=3", 2).run(3, "delete A where k=9", 1).gave(3, "1 30")
                .begin(3, 0).run(3, "delete A", 1).commit(3, 2).checkpoint(3, 3).gave(3, "1 30").gave(0, "7")
                .text(3, "select").gave(3, "1 30").select(3, " k from A where k=77", "").gave(0, "7");
    }

    private static void testOutside(Checks checks) {
        filled(checks, "promises 15 and 16: outside of what there is")
                .select(3, "select 11,12,13 from A where lab=3", "11 12 13").value(3, 0, 3, 0).value(3, 0, -1, 0)
                .value(3, -1, 0, 0).value(3, 1, 0, 0).value(3, 40, 0, 0).value(3, Integer.MAX_VALUE, 2, 0)
                .value(3, 0, Integer.MAX_VALUE, 0).value(3, Integer.MIN_VALUE, Integer.MIN_VALUE, 0)
                .value(-1, 0, 0, 0).value(4, 0, 0, 0).value(2, 0, 0, 0).results(-1, -1).results(4, -1).results(2, 0)
                .select(3, "select 21 from A where lab=3", "21").value(3, 0, 1, 0).value(3, 0, 2, 0);
    }
}
