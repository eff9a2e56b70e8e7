/** The boundary cases of what a run answers first, and of insert, delete and update, sentence by sentence. */
final class ChangeBoundsTest {
    static void test(Checks checks) {
        testNoStatementFirst(checks);
        testTableTwice(checks);
        testOtherTable(checks);
        testColumnWithoutName(checks);
        testColumnInInsert(checks);
        testWrongNamesBeforeOthers(checks);
        testInUse(checks);
        testInUseBeforeOthers(checks);
        testInsert(checks);
        testInsertRefused(checks);
        testDelete(checks);
        testUpdateOwn(checks);
        testUpdateOthers(checks);
        testUpdateAsks(checks);
        testUpdateCounts(checks);
        testUpdateOverflows(checks);
        testAlone(checks);
        testAloneRefused(checks);
    }

    /** A session whose label another one has a transaction of, with 6 rows in A. */
    private static Trial held(Checks checks, String sentence) {
        return new Trial(checks, sentence, 1, 1, 1, 0).fill(0, "A", 1, 6).begin(0, 0);
    }

    private static void testNoStatementFirst(Checks checks) {
        held(checks, "RUNNING a draft answers the first of these that is due: -2: it is no statement")
                .run(1, "insert A k,1", -2).run(1, "insert A 1,B.k,1,1", -2).run(1, "delete A where B.k=1=1", -2)
                .run(1, "update A v=B.v where", -2).run(1, "update B k=A.k", -2).run(1, "select B.k from A A", -2)
                .run(1, "select k from A,A,", -2).run(1, "select k,k,k,B.k from A", -2)
                .run(1, "delete A where -------B.k=1", -2).run(1, "insert A 1234567890,k,k", -2).run(1, -2)
                .run(0, "insert A 7,7,7 7", -2);
    }

    private static void testTableTwice(Checks checks) {
        String sentence = "-3: select names a table twice";
        Trial.each(checks, sentence, -3, "select 1 from A,A", "select 1 from B,B", "select A.k from A,A",
                "select B.k from B,B", "select k from A,A", "select count from B,B",
                "select top 1 from A,A where 1=2 order 1");
        Trial.each(checks, sentence, 0, "select 1 from A,B", "select 1 from B,A", "select A.k,B.k from B,A",
                "select 1 from B");
        Trial.each(checks, sentence, 1, "select 1 from A");
    }

    private static void testOtherTable(Checks checks) {
        String sentence = "-3: a COL is of a table that is not the statement's";
        Trial.each(checks, sentence, -3, "select B.k from A", "select 1,B.v from A", "select 1,1,B.w from A",
                "select A.lab from B", "select sum(B.k) from A", "select 1 from A where B.k=1",
                "select 1 from A where 1=1 or 1=B.lab", "select 1 from A group B.k", "select 1 from A order B.k",
                "select 1 from A order sum(B.k)", "delete A where B.k=1", "delete B where A.k=1", "update A v=B.v",
                "update A v=1 where B.v=1", "update B w=A.w", "update B w=1 where A.w=1", "update A v=A.v+B.v",
                "delete A where 1=2 and B.k=1", "select ((((((B.k)))))) from A", "select k-k*B.k from A",
                "delete A where not not[not[[B.k=1]]]", "select A.k,v,B.k+w from A");
        Trial.each(checks, sentence, 1, "select A.k from A", "select 1,A.v from A", "select sum(A.k) from A",
                "update A v=A.v", "select 1 from A where A.k=1", "select 1 from A group A.k",
                "select 1 from A order A.k", "delete A where A.k=1", "update A v=1 where A.v=2",
                "select A.k,v,A.k+w from A where A.lab=lab");
        Trial.each(checks, sentence, 0, "select B.k from B", "delete B where B.k=1", "update B w=B.w where B.w=1",
                "select B.k,A.k from A,B", "select A.k from B,A where B.k=A.k group B.v order A.w+B.w");
    }

    private static void testColumnWithoutName(Checks checks) {
        String sentence = "-3: with two tables a COL has no name";
        Trial.each(checks, sentence, -3, "select k from A,B", "select 1,v from A,B", "select A.k,B.k,w from A,B",
                "select lab from B,A", "select sum(k) from A,B", "select 1 from A,B where k=1",
                "select 1 from A,B where 1=1 or 1=k", "select 1 from A,B group k", "select 1 from A,B order k",
                "select 1 from A,B order sum(k)", "select A.k from A,B where A.k=k", "select A.k+v from A,B",
                "select top -(-k) from B,A");
        Trial.each(checks, sentence, 0, "select A.k from A,B", "select 1,B.v from A,B", "select sum(A.k) from A,B",
                "select 1 from A,B where A.k=1", "select 1 from A,B group A.k", "select 1 from A,B order B.k",
                "select 1,2 from A,B", "select count from B,A order sum(A.k)");
        Trial.each(checks, sentence, 1, "select k from A", "select 1,v from A",
                "select sum(k) from A where k=1 group k order k");
    }

    private static void testColumnInInsert(Checks checks) {
        String sentence = "-3: an E of insert has a COL in it";
        for (String column : new String[] {"k", "v", "w", "lab", "A.k", "A.lab", "B.v", "B.w"}) {
            Trial.each(checks, sentence, -3, "insert A " + column + ",2,3", "insert A 5," + column + ",3",
                    "insert B 5,2," + column, "insert B 1+" + column + "*0,2,3",
                    "insert A 5,-((-(-" + column + "))),3");
        }
        Trial.each(checks, sentence, 1, "insert A 5,2,3", "insert A 1+5*0+1,2,3", "insert A 5,-((-(-1))),3",
                "insert B 5,2,3");
    }

    private static void testWrongNamesBeforeOthers(Checks checks) {
        held(checks, "-3 is due before -6, -4, -5 and -7")
                .run(1, "insert A 1,k,1", -3).run(1, "insert A 9,9,v", -3).run(1, "delete A where B.k=1", -3)
                .run(1, "update A v=B.v", -3).run(0, "insert A 1,k,1", -3).run(0, "insert A 9,9,v", -3)
                .run(1, "select 1 from A,A", -3).rows(1, Trial.A, 6);
        new Trial(checks, "-3 is due before -7", 0, 1, 0, 0).fill(0, "A", 1, 6).fill(0, "B", 1, 6)
                .run(1, "insert A 1,1,1", 1).run(1, "select k from A,B", -3).run(1, "select B.k from A,A", -3)
                .run(1, "select A.k from A,B", -7);
    }

    private static void testInUse(Checks checks) {
        Trial trial = new Trial(checks,
                "-6: the statement is no select, and another session of the same label has a transaction",
                1, 1, 3, 1);
        trial.run(1, "insert A 1,1,1", 1).begin(0, 0).run(1, "insert A 2,2,2", -6).run(3, "insert A 2,2,2", -6)
                .run(1, "delete A", -6).run(1, "update A v=2", -6).run(1, "delete A where 1=2", -6)
                .run(1, "delete B", -6).run(1, "update A v=v where k=9", -6).run(1, "update B v=1", -6)
                .sees(1, Trial.A, "1 1 1 1").log(1, 2);
        trial.run(0, "insert A 2,2,2", 1).run(2, "insert A 2,2,2", 1).run(2, "update A v=5", 2).run(2, "delete A", 2);
        trial.run(1, "select k from A", 2).run(3, "select count from A", 1).run(0, "select k from A", 2);
        trial.commit(0, 2).run(1, "insert A 3,3,3", 1).begin(3, 0).run(0, "insert A 4,4,4", -6).run(1, "delete A", -6);
        trial.run(3, "delete A where k=3", 1).abort(3, 0).run(0, "delete A where k=3", 1).begin(1, 0)
                .run(3, "delete A", -6);
        trial.crash().run(3, "delete A", 2);
        // A transaction of another label is none of this one's, whether that dominates it or not.
        trial.begin(2, 0).run(0, "insert A 1,1,1", 1).run(2, "insert A 1,1,1", 1).run(3, "update A v=2", 1);
    }

    private static void testInUseBeforeOthers(Checks checks) {
        held(checks, "-6 is due before -4 and -5").run(1, "insert A 1,1,1", -6).run(1, "insert A 7,7,7", -6)
                .run(0, "insert A 1,1,1", -4).run(0, "insert A 7,7,7", -5).run(3, "insert A 7,7,7", 1)
                .run(1, "update A v=1", -6).run(0, "update A v=1", -5).run(0, "update A v=1 where k<7", 6);
    }

    private static void testInsert(Checks checks) {
        new Trial(checks, "insert: a row of L with the three values as k, v, w: 1", 5, 4, 7, 5)
                .run(0, "insert A 1,2,3", 1).run(1, "insert A 1,4,5", 1).run(2, "insert B 6+1,7*2,-8", 1)
                .sees(0, Trial.A, "1 4 5 4; 1 2 3 5").sees(2, Trial.B, "7 14 -8 7").rows(0, Trial.B, 0).log(0, 2)
                .log(2, 2).begin(0, 0).run(0, "insert A 0,0,0", 1).sees(3, Trial.A, "0 0 0 5; 1 4 5 4; 1 2 3 5")
                .log(0, 2);
    }

    private static void testInsertRefused(Checks checks) {
        Trial trial = new Trial(checks,
                "-4 when there is one with that key and L; else -5 when 6 rows of L are in the table",
                3, 3, 1, 0);
        trial.run(0, "insert A 1,1,1", 1).run(0, "insert A 1,1,1", -4).run(0, "insert A 2-1,9,9", -4);
        trial.sees(0, Trial.A, "1 1 1 3").log(0, 2).run(2, "insert A 2,1,1", 1).run(0, "insert A 2,2,2", 1)
                .fill(0, "A", 3, 5);
        trial.run(0, "insert A 5,9,9", -4).run(0, "insert A 6,6,6", 1).run(0, "insert A 6,9,9", -4)
                .run(0, "insert A 1,9,9", -4);
        trial.run(0, "insert A 7,9,9", -5).run(0, "insert A -1,9,9", -5).rows(0, Trial.A, 7).cell(0, Trial.A, 6, 1, 6)
                .log(0, 12);
        trial.run(2, "insert A 3,9,9", 1).run(0, "insert A 3,8,8", -4).run(0, "insert A 7,8,8", -5);
        // Within a transaction its own rows count, and it goes on after a refusal.
        trial.begin(1, 0).run(1, "insert A 7,7,7", -5).run(1, "delete A where k=6", 1).run(1, "insert A 7,7,7", 1);
        trial.run(1, "insert A 7,8,8", -4).run(1, "insert A 6,8,8", -5).busy(1, true).run(1, "delete A where k=7", 1);
        trial.run(1, "insert A 6,8,8", 1).commit(1, 2).cell(0, Trial.A, 7, 1, 8);
    }

    private static void testDelete(Checks checks) {
        new Trial(checks, "delete: the rows of L for which C is true (all, without where) are taken out: how many", 2,
                3, 2, 0)
                .run(0, "delete A", 0).run(0, "delete A where 1=1", 0).fill(0, "A", 1, 6).fill(1, "A", 1, 2)
                .fill(0, "B", 1, 1).run(0, "delete A where k>6", 0).run(0, "delete A where k=6", 1)
                .run(0, "delete A where k=2 or k=4", 2).sees(2, Trial.A, "1 0 0 2; 3 0 0 2; 5 0 0 2")
                .run(1, "delete A where lab=2", 0).run(0, "delete A where lab=3", 0)
                .sees(1, Trial.A, "1 0 0 2; 1 0 0 3; 2 0 0 3; 3 0 0 2; 5 0 0 2").run(1, "delete A", 2)
                .run(1, "delete A", 0).run(0, "delete A", 3).rows(1, Trial.A, 0).rows(0, Trial.B, 1).fill(0, "A", 1, 1);
        new Trial(checks, "delete: all, without where", 7, 0, 0, 0).begin(0, 0).fill(0, "A", 1, 6).run(0, "delete A", 6)
                .rows(0, Trial.A, 0).run(0, "delete A", 0).fill(0, "A", 1, 6).run(0, "delete A where k<7", 6)
                .commit(0, 0);
    }

    private static void testUpdateOwn(Checks checks) {
        new Trial(checks,
                "update: one of L gets the value of E (for the row as it was before the statement) in the column",
                1, 1, 0, 0)
                .run(0, "insert A 1,10,100", 1).run(0, "insert A 2,20,200", 1).run(0, "update A v=v+w+k+lab", 2)
                .sees(1, Trial.A, "1 112 100 1; 2 223 200 1").run(0, "update A w=v where k=2", 1)
                .sees(1, Trial.A, "1 112 100 1; 2 223 223 1").run(0, "update A w=w+1", 2).run(0, "update A v=7", 2)
                .sees(1, Trial.A, "1 7 101 1; 2 7 224 1").run(0, "update A v=v*2 where w>101", 1)
                .sees(1, Trial.A, "1 7 101 1; 2 14 224 1");
    }

    private static void testUpdateOthers(Checks checks) {
        new Trial(checks,
                "update: for another one, when there is no row with its key and L, there is a new one with that key, L,"
                + " and its values, but that value in the column", 0, 1, 3, 3)
                .run(0, "insert A 1,10,11", 1).run(2, "insert A 2,70,71", 1).run(0, "insert A 2,20,21", 1)
                .run(2, "update A w=w+lab", 2).sees(3, Trial.A, "1 10 11 0; 1 10 11 3; 2 20 21 0; 2 70 74 3")
                .run(2, "delete A where k=1", 1).run(2, "update A v=v+5 where lab=0", 1)
                .sees(2, Trial.A, "1 10 11 0; 1 15 11 3; 2 20 21 0; 2 70 74 3").sees(0, Trial.A, "1 10 11 0; 2 20 21 0")
                .run(2, "update A v=0 where lab=0", 0).begin(1, 0).run(1, "update A v=k", 2)
                .sees(1, Trial.A, "1 10 11 0; 1 1 11 1; 2 20 21 0; 2 2 21 1").run(2, "update A v=0 where lab<3", 0);
        new Trial(checks, "update: no row with its key and L, as the statement has left them so far", 0, 1, 2, 3)
                .run(0, "insert A 1,5,5", 1).run(1, "insert A 1,6,6", 1).run(2, "insert A 1,7,7", 1)
                .run(1, "insert A 2,8,8", 1).run(2, "insert A 2,9,9", 1).run(3, "update A v=v*10", 2)
                .sees(3, Trial.A, "1 5 5 0; 1 6 6 1; 1 7 7 2; 1 50 5 3; 2 8 8 1; 2 9 9 2; 2 80 8 3")
                .run(3, "delete A", 2).run(3, "update A w=w*10 where w>6", 2)
                .sees(3, Trial.A, "1 5 5 0; 1 6 6 1; 1 7 7 2; 1 7 70 3; 2 8 8 1; 2 9 9 2; 2 8 80 3");
    }

    private static void testUpdateAsks(Checks checks) {
        new Trial(checks, "update: C is asked of the rows as they were before the statement", 0, 1, 1, 1)
                .run(0, "insert A 1,5,5", 1).run(1, "insert A 2,5,5", 1).run(1, "update A v=v+1 where v<7", 2)
                .sees(1, Trial.A, "1 5 5 0; 1 6 5 1; 2 6 5 1").run(1, "update A v=5 where lab=1", 2)
                .run(1, "update A v=9 where v=5 and lab=1", 2).sees(1, Trial.A, "1 5 5 0; 1 9 5 1; 2 9 5 1")
                .run(1, "update A w=8 where lab=0", 0).run(0, "update A w=8", 1).run(1, "update A w=8 where w=8", 0)
                .sees(1, Trial.A, "1 5 8 0; 1 9 5 1; 2 9 5 1");
        new Trial(checks, "update: for the rows that it sees", 1, 2, 3, 3)
                .run(0, "insert A 1,1,1", 1).begin(0, 0).run(0, "insert A 2,2,2", 1).run(1, "insert A 3,3,3", 1)
                .run(0, "update A v=7", 2).run(2, "update A w=9", 2)
                .sees(2, Trial.A, "1 1 1 1; 1 1 9 3; 3 3 3 2; 3 3 9 3").run(1, "update A v=8", 1)
                .sees(1, Trial.A, "3 8 3 2");
    }

    private static void testUpdateCounts(Checks checks) {
        new Trial(checks, "update: how many were changed (also to the values that they had) or made", 0, 1, 0, 0)
                .run(1, "update A v=1", 0).run(0, "insert A 1,1,1", 1).run(0, "insert A 2,2,2", 1)
                .run(0, "insert A 3,3,3", 1).run(1, "insert A 3,4,5", 1).run(1, "update A v=4 where k=3 and lab=1", 1)
                .log(1, 2).run(1, "update A w=w", 3).log(1, 5).run(1, "update A w=w", 3).log(1, 5)
                .run(1, "update A w=w where lab=0", 0).run(1, "update A w=w where lab=1", 3)
                .run(1, "update A w=w where k=9", 0).run(0, "update A v=k", 3).log(0, 6);
    }

    private static void testUpdateOverflows(Checks checks) {
        Trial trial = new Trial(checks,
                "update: -5, and nothing is done, when more than 6 rows of L would be in the table",
                0, 2, 3, 2);
        trial.fill(0, "A", 1, 4).fill(1, "A", 0, 0).run(1, "update A v=1 where k<4", 4).run(1, "update A v=2", 5);
        trial.fill(1, "A", 9, 9).fill(0, "A", 5, 5).run(1, "update A v=3", -5).run(1, "update A v=3 where k=5", -5);
        trial.sees(1, Trial.A,
                "0 2 0 2; 1 0 0 0; 1 2 0 2; 2 0 0 0; 2 2 0 2; 3 0 0 0; 3 2 0 2; 4 0 0 0; 4 2 0 2; 5 0 0 0; 9 0 0 2");
        trial.log(1, 15).run(1, "update A v=3 where not k=5", 6).run(1, "update B v=3", 0).busy(1, false);
        trial.begin(3, 0).run(3, "update A w=3", -5).busy(3, true).cell(3, Trial.A, 0, 2, 0)
                .run(3, "delete A where k=9", 1);
        trial.run(3, "update A w=3", 6).run(3, "update A w=4", 6).commit(3, 8).log(1, 30).rows(1, Trial.A, 11)
                .rows(2, Trial.A, 11);
        // From none to six rows by one statement, and from none to seven.
        Trial wide = new Trial(checks, "update: 6 rows made at once, but not 7", 0, 2, 3, 7).fill(0, "A", 1, 4)
                .fill(1, "A", 4, 6);
        wide.run(2, "update A v=1", 6).sees(2, Trial.A,
                "1 0 0 0; 1 1 0 3; 2 0 0 0; 2 1 0 3; 3 0 0 0; 3 1 0 3; 4 0 0 0; 4 0 0 2;"
                + "4 1 0 3; 5 0 0 2; 5 1 0 3; 6 0 0 2; 6 1 0 3");
        wide.log(2, 7).run(0, "insert A 7,0,0", 1).run(3, "update A v=1", -5).log(3, 0).rows(3, Trial.A, 14);
        wide.run(3, "update A v=2 where k>1", 6).log(3, 7).run(3, "update A v=3 where k=1", -5).rows(3, Trial.A, 20);
    }

    private static void testAlone(Checks checks) {
        new Trial(checks,
                "a statement other than select of a session without a transaction is a transaction by itself", 1, 1, 3,
                0)
                .run(0, "insert A 1,1,1", 1).busy(0, false).log(0, 2).sees(2, Trial.A, "1 1 1 1")
                .run(1, "update A v=2", 1).busy(1, false).log(0, 4).sees(2, Trial.A, "1 2 1 1")
                .run(0, "select k from A", 1).log(0, 4).busy(0, false).run(0, "update A v=2", 1).log(0, 4)
                .run(0, "delete A where k=2", 0).log(0, 4).run(0, "insert A 1,1,1", -4).log(0, 4).crash()
                .sees(2, Trial.A, "1 2 1 1").run(1, "delete A", 1).log(0, 6).rows(2, Trial.A, 0).commit(1, -8).crash()
                .rows(0, Trial.A, 0).log(0, 6);
    }

    private static void testAloneRefused(Checks checks) {
        String sentence = "when it can't be committed (-5), it answers -5, and nothing is done";
        for (int count = 26; count <= 30; count++) {
            Trial trial = new Trial(checks, sentence, 1, 1, 0, 3).run(2, "insert A 1,1,1", 1)
                    .run(2, "insert A 2,1,1", 1);
            trial.records(0, count);
            boolean fitTwo = count + 2 <= 30;
            boolean fitThree = count + 3 <= 30;
            trial.begin(1, 0).run(1, "insert A 9,9,9", 1).abort(1, 0).run(0, "select k from A", 2)
                    .run(0, "insert B 0,9,9", -4);
            trial.run(0, "update A v=8", fitThree ? 2 : -5).log(1, fitThree ? count + 3 : count).busy(0, false);
            trial.rows(0, Trial.A, fitThree ? 4 : 2).rows(3, Trial.A, fitThree ? 4 : 2);
            if (fitThree) {
                continue;
            }
            trial.run(1, "insert A 5,5,5", fitTwo ? 1 : -5).log(1, fitTwo ? count + 2 : count)
                    .rows(3, Trial.A, fitTwo ? 3 : 2);
            trial.run(1, "update B v=v", 1 + count % 2).run(0, "delete A where k=8", 0).run(1, "insert B 0,1,1", -4);
            trial.run(0, "delete B", -5).rows(1, Trial.B, 1 + count % 2).begin(0, 0).abort(0, 0).run(2, "delete A", 2);
        }
    }
}
